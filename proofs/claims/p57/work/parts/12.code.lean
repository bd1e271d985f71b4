/-! HalfAccuser$Tape.isLetter(I)Z -/
theorem dX6_isLetter_0 : decode cX6_isLetter 0 = .ok ((.iload_n 0), 1) := by decide +kernel
theorem dX6_isLetter_1 : decode cX6_isLetter 1 = .ok ((.bipush 97), 2) := by decide +kernel
theorem dX6_isLetter_3 : decode cX6_isLetter 3 = .ok ((.if_icmp .lt 13), 3) := by decide +kernel
theorem dX6_isLetter_6 : decode cX6_isLetter 6 = .ok ((.iload_n 0), 1) := by decide +kernel
theorem dX6_isLetter_7 : decode cX6_isLetter 7 = .ok ((.bipush 122), 2) := by decide +kernel
theorem dX6_isLetter_9 : decode cX6_isLetter 9 = .ok ((.if_icmp .gt 7), 3) := by decide +kernel
theorem dX6_isLetter_12 : decode cX6_isLetter 12 = .ok ((.iconst 1), 1) := by decide +kernel
theorem dX6_isLetter_13 : decode cX6_isLetter 13 = .ok ((.goto 4), 3) := by decide +kernel
theorem dX6_isLetter_16 : decode cX6_isLetter 16 = .ok ((.iconst 0), 1) := by decide +kernel
theorem dX6_isLetter_17 : decode cX6_isLetter 17 = .ok (.ireturn, 1) := by decide +kernel
def p_X6_isLetter   (S : vSt) (a0 : Int32) (post : Bool → vSt → Prop) : Prop := ((a0 < 97 → post false S) ∧ (¬ a0 < 97 → ((122 < a0 → post false S) ∧ (¬ 122 < a0 → post true S))))
set_option maxHeartbeats 4000000 in
set_option maxRecDepth 100000 in
theorem c_X6_isLetter (l : Launch) (G : vG)    {S : vSt} (a0 : Int32) (post : Bool → vSt → Prop) (h : p_X6_isLetter   S a0 post) : Met l yX6_isLetter (v_ws yX6_isLetter cX6_isLetter 1 (some .boolean)) (v_rm 0 40) (v_Pc G [.int a0] S) (v_Qz G post) 0 0 (v_A G) := by
  refine v_start (by decide +kernel) (Nat.le_of_ble_eq_true rfl) (fun X hl C D => ?_)
  subst hl
  have C : v_Cx X G cX6_isLetter RX6 1 (v_rm 0 40) := C
  show VJ X G S 0 [(0, .int a0)] []
  refine V_iload_n C 0 dX6_isLetter_0 rfl rfl ?_
  refine V_bipush (v := 97) C dX6_isLetter_1 (by decide) ?_
  refine V_icmp_lt (tgt := 16) C dX6_isLetter_3 (by decide) (fun c => ?_) (fun c => ?_)
  · have h := h.1 c
    refine V_iconst (v := 0) C dX6_isLetter_16 (by decide) ?_
    exact V_zret0 C D dX6_isLetter_17 h
  · have h := h.2 c
    refine V_iload_n C 0 dX6_isLetter_6 rfl rfl ?_
    refine V_bipush (v := 122) C dX6_isLetter_7 (by decide) ?_
    refine V_icmp_gt (tgt := 16) C dX6_isLetter_9 (by decide) (fun c => ?_) (fun c => ?_)
    · have h := h.1 c
      refine V_iconst (v := 0) C dX6_isLetter_16 (by decide) ?_
      exact V_zret0 C D dX6_isLetter_17 h
    · have h := h.2 c
      refine V_iconst (v := 1) C dX6_isLetter_12 (by decide) ?_
      refine V_goto (tgt := 17) C dX6_isLetter_13 (by decide) ?_
      exact V_zret1 C D dX6_isLetter_17 h
/-! HalfAccuser$Tape.runEnd(IIZ)I -/
theorem dX6_runEnd_0 : decode cX6_runEnd 0 = .ok ((.iload_n 1), 1) := by decide +kernel
theorem dX6_runEnd_1 : decode cX6_runEnd 1 = .ok ((.istore 4), 2) := by decide +kernel
theorem dX6_runEnd_3 : decode cX6_runEnd 3 = .ok ((.iload 4), 2) := by decide +kernel
theorem dX6_runEnd_5 : decode cX6_runEnd 5 = .ok ((.iload_n 2), 1) := by decide +kernel
theorem dX6_runEnd_6 : decode cX6_runEnd 6 = .ok ((.if_icmp .ge 40), 3) := by decide +kernel
theorem dX6_runEnd_9 : decode cX6_runEnd 9 = .ok ((.iload_n 3), 1) := by decide +kernel
theorem dX6_runEnd_10 : decode cX6_runEnd 10 = .ok ((.ifCond .eq 18), 3) := by decide +kernel
theorem dX6_runEnd_13 : decode cX6_runEnd 13 = .ok ((.aload_n 0), 1) := by decide +kernel
theorem dX6_runEnd_14 : decode cX6_runEnd 14 = .ok ((.iload 4), 2) := by decide +kernel
theorem dX6_runEnd_16 : decode cX6_runEnd 16 = .ok ((.invokevirtual 33), 3) := by decide +kernel
theorem dX6_runEnd_19 : decode cX6_runEnd 19 = .ok ((.invokestatic 37), 3) := by decide +kernel
theorem dX6_runEnd_22 : decode cX6_runEnd 22 = .ok ((.ifCond .eq 24), 3) := by decide +kernel
theorem dX6_runEnd_25 : decode cX6_runEnd 25 = .ok ((.goto 15), 3) := by decide +kernel
theorem dX6_runEnd_28 : decode cX6_runEnd 28 = .ok ((.aload_n 0), 1) := by decide +kernel
theorem dX6_runEnd_29 : decode cX6_runEnd 29 = .ok ((.iload 4), 2) := by decide +kernel
theorem dX6_runEnd_31 : decode cX6_runEnd 31 = .ok ((.invokevirtual 33), 3) := by decide +kernel
theorem dX6_runEnd_34 : decode cX6_runEnd 34 = .ok ((.invokestatic 49), 3) := by decide +kernel
theorem dX6_runEnd_37 : decode cX6_runEnd 37 = .ok ((.ifCond .eq 9), 3) := by decide +kernel
theorem dX6_runEnd_40 : decode cX6_runEnd 40 = .ok ((.iinc 4 1), 3) := by decide +kernel
theorem dX6_runEnd_43 : decode cX6_runEnd 43 = .ok ((.goto (-40)), 3) := by decide +kernel
theorem dX6_runEnd_46 : decode cX6_runEnd 46 = .ok ((.iload 4), 2) := by decide +kernel
theorem dX6_runEnd_48 : decode cX6_runEnd 48 = .ok (.ireturn, 1) := by decide +kernel
def p_X6_runEnd_40  (a1 : Int32) (a2 : Int32) (a3 : Bool)  (K3 : vSt → Int32 → Prop) (post : Int32 → vSt → Prop) (S : vSt) (x4 : Int32) : Prop := ∀ y23 : Int32, y23 = x4 + 1 → K3 S y23
def p_X6_runEnd_3  (a1 : Int32) (a2 : Int32) (a3 : Bool)   (post : Int32 → vSt → Prop) : Nat → vSt → Int32 → Prop
  | 0 => fun _ _ => False
  | fu3 + 1 => fun S x4 => ((a2 ≤ x4 → post x4 S) ∧ (¬ a2 ≤ x4 → ((a3 = false → p_X6_byteAt  S x4 (fun r20 S19 => p_X6_isDigit  S19 r20 (fun r22 S21 => ((r22 = false → post x4 S21) ∧ (r22 = true → p_X6_runEnd_40 a1 a2 a3 (p_X6_runEnd_3 a1 a2 a3 post fu3) post S21 x4))))) ∧ (a3 = true → p_X6_byteAt  S x4 (fun r24 S23 => p_X6_isLetter  S23 r24 (fun r26 S25 => ((r26 = false → post x4 S25) ∧ (r26 = true → p_X6_runEnd_40 a1 a2 a3 (p_X6_runEnd_3 a1 a2 a3 post fu3) post S25 x4))))))))
theorem e_X6_runEnd_3  (a1 : Int32) (a2 : Int32) (a3 : Bool)   (post : Int32 → vSt → Prop) (fu3 : Nat) (S : vSt) (x4 : Int32) : p_X6_runEnd_3 a1 a2 a3 post (fu3 + 1) S x4 = (((a2 ≤ x4 → post x4 S) ∧ (¬ a2 ≤ x4 → ((a3 = false → p_X6_byteAt  S x4 (fun r20 S19 => p_X6_isDigit  S19 r20 (fun r22 S21 => ((r22 = false → post x4 S21) ∧ (r22 = true → p_X6_runEnd_40 a1 a2 a3 (p_X6_runEnd_3 a1 a2 a3 post fu3) post S21 x4))))) ∧ (a3 = true → p_X6_byteAt  S x4 (fun r24 S23 => p_X6_isLetter  S23 r24 (fun r26 S25 => ((r26 = false → post x4 S25) ∧ (r26 = true → p_X6_runEnd_40 a1 a2 a3 (p_X6_runEnd_3 a1 a2 a3 post fu3) post S25 x4))))))))) := rfl
def p_X6_runEnd   (S : vSt) (a1 : Int32) (a2 : Int32) (a3 : Bool) (post : Int32 → vSt → Prop) : Prop := ∃ fu3, p_X6_runEnd_3 a1 a2 a3 post fu3 S a1
set_option maxHeartbeats 4000000 in
set_option maxRecDepth 100000 in
theorem q_X6_runEnd_40 {X : vX} {G : vG}  {post : Int32 → vSt → Prop} (C : v_Cx X G cX6_runEnd RX6 5 (v_rm 1 61)) (D : v_Rx X G (v_Qi G post) (some .int))  {a1 : Int32} {a2 : Int32} {a3 : Bool}  {K3 : vSt → Int32 → Prop} (hK3 : ∀ S x4, K3 S x4 → VJ X G S 3 [(0, .ref (G.1 5)), (2, .int a2), (3, .int (v_b a3)), (4, .int x4)] []) : ∀ (S : vSt) (x4 : Int32), p_X6_runEnd_40 a1 a2 a3 K3 post S x4 → VJ X G S 40 [(0, .ref (G.1 5)), (2, .int a2), (3, .int (v_b a3)), (4, .int x4)] [] := by
  intro S x4 h
  obtain ⟨y23, ey23⟩ : ∃ z : Int32, z = x4 + 1 := ⟨_, rfl⟩
  have h := h y23 ey23
  refine V_iinc (lv' := [(0, .ref (G.1 5)), (2, .int a2), (3, .int (v_b a3)), (4, .int y23)]) C 3 [1, 2, 3, 0] y23 dX6_runEnd_40 rfl (by rw [ey23]; rfl) (by decide) rfl ?_
  refine V_goto (tgt := 3) C dX6_runEnd_43 (by decide) ?_
  exact hK3 _ _ h
set_option maxHeartbeats 4000000 in
set_option maxRecDepth 100000 in
theorem q_X6_runEnd_3 {X : vX} {G : vG}  {post : Int32 → vSt → Prop} (C : v_Cx X G cX6_runEnd RX6 5 (v_rm 1 61)) (D : v_Rx X G (v_Qi G post) (some .int))  {a1 : Int32} {a2 : Int32} {a3 : Bool}   : ∀ (fu : Nat) (S : vSt) (x4 : Int32), p_X6_runEnd_3 a1 a2 a3 post fu S x4 → VJ X G S 3 [(0, .ref (G.1 5)), (2, .int a2), (3, .int (v_b a3)), (4, .int x4)] [] := by
  intro fu
  induction fu with
  | zero => intro S x4 h; exact absurd h id
  | succ fu ih =>
    intro S x4 h
    have hK3 := ih
    rw [e_X6_runEnd_3] at h
    refine V_iload C 3 dX6_runEnd_3 rfl ?_
    refine V_iload_n C 1 dX6_runEnd_5 rfl rfl ?_
    refine V_icmp_ge (tgt := 46) C dX6_runEnd_6 (by decide) (fun c => ?_) (fun c => ?_)
    · have h := h.1 c
      refine V_iload C 3 dX6_runEnd_46 rfl ?_
      exact V_iret C D dX6_runEnd_48 h
    · have h := h.2 c
      refine V_iload_n C 2 dX6_runEnd_9 rfl rfl ?_
      refine V_ifb_eq (tgt := 28) C dX6_runEnd_10 (by decide) (fun c => ?_) (fun c => ?_)
      · have h := h.1 c
        refine V_aload_n C 0 dX6_runEnd_28 rfl rfl ?_
        refine V_iload C 3 dX6_runEnd_29 rfl ?_
        refine V_callVi (As := [.int x4]) (rest := []) C (c_X6_byteAt (v_l X) G  _ _ h) 5 6 (by decide) (by decide) (by decide) rfl KV_X6_byteAt k_RX6_33 rfl rfl rfl (Nat.le_of_ble_eq_true rfl) ⟨Nat.le_of_ble_eq_true rfl, Nat.le_of_ble_eq_true rfl⟩ dX6_runEnd_31 (fun r20 S19 h => ?_)
        refine V_callSz (As := [.int r20]) (rest := []) C (c_X6_isDigit (v_l X) G  _ _ h) KV_X6_isDigit k_RX6_49 rfl rfl rfl (Nat.le_of_ble_eq_true rfl) ⟨Nat.le_of_ble_eq_true rfl, Nat.le_of_ble_eq_true rfl⟩ dX6_runEnd_34 (fun r22 S21 h => ?_)
        refine V_ifb_eq (tgt := 46) C dX6_runEnd_37 (by decide) (fun c => ?_) (fun c => ?_)
        · have h := h.1 c
          refine V_iload C 3 dX6_runEnd_46 rfl ?_
          exact V_iret C D dX6_runEnd_48 h
        · have h := h.2 c
          exact q_X6_runEnd_40 C D hK3 _ _ h
      · have h := h.2 c
        refine V_aload_n C 0 dX6_runEnd_13 rfl rfl ?_
        refine V_iload C 3 dX6_runEnd_14 rfl ?_
        refine V_callVi (As := [.int x4]) (rest := []) C (c_X6_byteAt (v_l X) G  _ _ h) 5 6 (by decide) (by decide) (by decide) rfl KV_X6_byteAt k_RX6_33 rfl rfl rfl (Nat.le_of_ble_eq_true rfl) ⟨Nat.le_of_ble_eq_true rfl, Nat.le_of_ble_eq_true rfl⟩ dX6_runEnd_16 (fun r24 S23 h => ?_)
        refine V_callSz (As := [.int r24]) (rest := []) C (c_X6_isLetter (v_l X) G  _ _ h) KV_X6_isLetter k_RX6_37 rfl rfl rfl (Nat.le_of_ble_eq_true rfl) ⟨Nat.le_of_ble_eq_true rfl, Nat.le_of_ble_eq_true rfl⟩ dX6_runEnd_19 (fun r26 S25 h => ?_)
        refine V_ifb_eq (tgt := 46) C dX6_runEnd_22 (by decide) (fun c => ?_) (fun c => ?_)
        · have h := h.1 c
          refine V_iload C 3 dX6_runEnd_46 rfl ?_
          exact V_iret C D dX6_runEnd_48 h
        · have h := h.2 c
          refine V_goto (tgt := 40) C dX6_runEnd_25 (by decide) ?_
          exact q_X6_runEnd_40 C D hK3 _ _ h
set_option maxHeartbeats 4000000 in
set_option maxRecDepth 100000 in
theorem c_X6_runEnd (l : Launch) (G : vG)    {S : vSt} (a1 : Int32) (a2 : Int32) (a3 : Bool) (post : Int32 → vSt → Prop) (h : p_X6_runEnd   S a1 a2 a3 post) : Met l yX6_runEnd (v_ws yX6_runEnd cX6_runEnd 5 (some .int)) (v_rm 1 61) (v_Pc G [.ref (G.1 5), .int a1, .int a2, .int (v_b a3)] S) (v_Qi G post) 0 0 (v_A G) := by
  refine v_start (by decide +kernel) (Nat.le_of_ble_eq_true rfl) (fun X hl C D => ?_)
  subst hl
  have C : v_Cx X G cX6_runEnd RX6 5 (v_rm 1 61) := C
  show VJ X G S 0 [(0, .ref (G.1 5)), (1, .int a1), (2, .int a2), (3, .int (v_b a3))] []
  refine V_iload_n C 1 dX6_runEnd_0 rfl rfl ?_
  refine V_istore (lv' := [(0, .ref (G.1 5)), (1, .int a1), (2, .int a2), (3, .int (v_b a3)), (4, .int a1)]) C [1, 2, 3, 4, 0] dX6_runEnd_1 (by decide) rfl ?_
  refine V_loc (lv' := [(0, .ref (G.1 5)), (2, .int a2), (3, .int (v_b a3)), (4, .int a1)]) [0, 2, 3, 4] rfl ?_
  obtain ⟨fu3, h⟩ := h
  exact q_X6_runEnd_3 C D  fu3 _ _ h
/-! HalfAccuser$Tape.split(I)V -/
theorem dX6_split_0 : decode cX6_split 0 = .ok ((.aload_n 0), 1) := by decide +kernel
theorem dX6_split_1 : decode cX6_split 1 = .ok ((.iconst 0), 1) := by decide +kernel
theorem dX6_split_2 : decode cX6_split 2 = .ok ((.putfield 30), 3) := by decide +kernel
theorem dX6_split_5 : decode cX6_split 5 = .ok ((.iconst 0), 1) := by decide +kernel
theorem dX6_split_6 : decode cX6_split 6 = .ok ((.istore_n 2), 1) := by decide +kernel
theorem dX6_split_7 : decode cX6_split 7 = .ok ((.iconst 0), 1) := by decide +kernel
theorem dX6_split_8 : decode cX6_split 8 = .ok ((.istore_n 3), 1) := by decide +kernel
theorem dX6_split_9 : decode cX6_split 9 = .ok ((.iload_n 3), 1) := by decide +kernel
theorem dX6_split_10 : decode cX6_split 10 = .ok ((.iload_n 1), 1) := by decide +kernel
theorem dX6_split_11 : decode cX6_split 11 = .ok ((.if_icmp .gt 145), 3) := by decide +kernel
theorem dX6_split_14 : decode cX6_split 14 = .ok ((.iload_n 2), 1) := by decide +kernel
theorem dX6_split_15 : decode cX6_split 15 = .ok ((.iload_n 1), 1) := by decide +kernel
theorem dX6_split_16 : decode cX6_split 16 = .ok ((.if_icmp .ge 140), 3) := by decide +kernel
theorem dX6_split_19 : decode cX6_split 19 = .ok ((.aload_n 0), 1) := by decide +kernel
theorem dX6_split_20 : decode cX6_split 20 = .ok ((.iload_n 2), 1) := by decide +kernel
theorem dX6_split_21 : decode cX6_split 21 = .ok ((.invokevirtual 33), 3) := by decide +kernel
theorem dX6_split_24 : decode cX6_split 24 = .ok ((.istore 4), 2) := by decide +kernel
theorem dX6_split_26 : decode cX6_split 26 = .ok ((.iload_n 2), 1) := by decide +kernel
theorem dX6_split_27 : decode cX6_split 27 = .ok ((.iconst 1), 1) := by decide +kernel
theorem dX6_split_28 : decode cX6_split 28 = .ok (.iadd, 1) := by decide +kernel
theorem dX6_split_29 : decode cX6_split 29 = .ok ((.istore 5), 2) := by decide +kernel
theorem dX6_split_31 : decode cX6_split 31 = .ok ((.iload 4), 2) := by decide +kernel
theorem dX6_split_33 : decode cX6_split 33 = .ok ((.invokestatic 37), 3) := by decide +kernel
theorem dX6_split_36 : decode cX6_split 36 = .ok ((.ifCond .eq 22), 3) := by decide +kernel
theorem dX6_split_39 : decode cX6_split 39 = .ok ((.aload_n 0), 1) := by decide +kernel
theorem dX6_split_40 : decode cX6_split 40 = .ok ((.iload_n 2), 1) := by decide +kernel
theorem dX6_split_41 : decode cX6_split 41 = .ok ((.iload_n 1), 1) := by decide +kernel
theorem dX6_split_42 : decode cX6_split 42 = .ok ((.iconst 1), 1) := by decide +kernel
theorem dX6_split_43 : decode cX6_split 43 = .ok ((.invokevirtual 41), 3) := by decide +kernel
theorem dX6_split_46 : decode cX6_split 46 = .ok ((.istore 5), 2) := by decide +kernel
theorem dX6_split_48 : decode cX6_split 48 = .ok ((.aload_n 0), 1) := by decide +kernel
theorem dX6_split_49 : decode cX6_split 49 = .ok ((.iload_n 2), 1) := by decide +kernel
theorem dX6_split_50 : decode cX6_split 50 = .ok ((.iload 5), 2) := by decide +kernel
theorem dX6_split_52 : decode cX6_split 52 = .ok ((.invokevirtual 45), 3) := by decide +kernel
theorem dX6_split_55 : decode cX6_split 55 = .ok ((.goto 92), 3) := by decide +kernel
theorem dX6_split_58 : decode cX6_split 58 = .ok ((.iload 4), 2) := by decide +kernel
theorem dX6_split_60 : decode cX6_split 60 = .ok ((.invokestatic 49), 3) := by decide +kernel
theorem dX6_split_63 : decode cX6_split 63 = .ok ((.ifCond .eq 22), 3) := by decide +kernel
theorem dX6_split_66 : decode cX6_split 66 = .ok ((.aload_n 0), 1) := by decide +kernel
theorem dX6_split_67 : decode cX6_split 67 = .ok ((.iload_n 2), 1) := by decide +kernel
theorem dX6_split_68 : decode cX6_split 68 = .ok ((.iload_n 1), 1) := by decide +kernel
theorem dX6_split_69 : decode cX6_split 69 = .ok ((.iconst 0), 1) := by decide +kernel
theorem dX6_split_70 : decode cX6_split 70 = .ok ((.invokevirtual 41), 3) := by decide +kernel
theorem dX6_split_73 : decode cX6_split 73 = .ok ((.istore 5), 2) := by decide +kernel
theorem dX6_split_75 : decode cX6_split 75 = .ok ((.aload_n 0), 1) := by decide +kernel
theorem dX6_split_76 : decode cX6_split 76 = .ok ((.iload_n 2), 1) := by decide +kernel
theorem dX6_split_77 : decode cX6_split 77 = .ok ((.iload 5), 2) := by decide +kernel
theorem dX6_split_79 : decode cX6_split 79 = .ok ((.invokevirtual 52), 3) := by decide +kernel
theorem dX6_split_82 : decode cX6_split 82 = .ok ((.goto 65), 3) := by decide +kernel
theorem dX6_split_85 : decode cX6_split 85 = .ok ((.iload 4), 2) := by decide +kernel
theorem dX6_split_87 : decode cX6_split 87 = .ok ((.bipush 59), 2) := by decide +kernel
theorem dX6_split_89 : decode cX6_split 89 = .ok ((.if_icmp .eq 24), 3) := by decide +kernel
theorem dX6_split_92 : decode cX6_split 92 = .ok ((.iload 4), 2) := by decide +kernel
theorem dX6_split_94 : decode cX6_split 94 = .ok ((.bipush 60), 2) := by decide +kernel
theorem dX6_split_96 : decode cX6_split 96 = .ok ((.if_icmp .eq 17), 3) := by decide +kernel
theorem dX6_split_99 : decode cX6_split 99 = .ok ((.iload 4), 2) := by decide +kernel
theorem dX6_split_101 : decode cX6_split 101 = .ok ((.bipush 62), 2) := by decide +kernel
theorem dX6_split_103 : decode cX6_split 103 = .ok ((.if_icmp .eq 10), 3) := by decide +kernel
theorem dX6_split_106 : decode cX6_split 106 = .ok ((.iload 4), 2) := by decide +kernel
theorem dX6_split_108 : decode cX6_split 108 = .ok ((.bipush 61), 2) := by decide +kernel
theorem dX6_split_110 : decode cX6_split 110 = .ok ((.if_icmp .ne 16), 3) := by decide +kernel
theorem dX6_split_113 : decode cX6_split 113 = .ok ((.aload_n 0), 1) := by decide +kernel
theorem dX6_split_114 : decode cX6_split 114 = .ok ((.bipush 6), 2) := by decide +kernel
theorem dX6_split_116 : decode cX6_split 116 = .ok ((.iload_n 2), 1) := by decide +kernel
theorem dX6_split_117 : decode cX6_split 117 = .ok ((.iload 4), 2) := by decide +kernel
theorem dX6_split_119 : decode cX6_split 119 = .ok (.i2l, 1) := by decide +kernel
theorem dX6_split_120 : decode cX6_split 120 = .ok ((.invokevirtual 55), 3) := by decide +kernel
theorem dX6_split_123 : decode cX6_split 123 = .ok ((.goto 24), 3) := by decide +kernel
theorem dX6_split_126 : decode cX6_split 126 = .ok ((.iload 4), 2) := by decide +kernel
theorem dX6_split_128 : decode cX6_split 128 = .ok ((.bipush 10), 2) := by decide +kernel
theorem dX6_split_130 : decode cX6_split 130 = .ok ((.if_icmp .eq 17), 3) := by decide +kernel
theorem dX6_split_133 : decode cX6_split 133 = .ok ((.iload 4), 2) := by decide +kernel
theorem dX6_split_135 : decode cX6_split 135 = .ok ((.bipush 32), 2) := by decide +kernel
theorem dX6_split_137 : decode cX6_split 137 = .ok ((.if_icmp .eq 10), 3) := by decide +kernel
theorem dX6_split_140 : decode cX6_split 140 = .ok ((.aload_n 0), 1) := by decide +kernel
theorem dX6_split_141 : decode cX6_split 141 = .ok ((.iconst 1), 1) := by decide +kernel
theorem dX6_split_142 : decode cX6_split 142 = .ok ((.iload_n 2), 1) := by decide +kernel
theorem dX6_split_143 : decode cX6_split 143 = .ok ((.lconst 0), 1) := by decide +kernel
theorem dX6_split_144 : decode cX6_split 144 = .ok ((.invokevirtual 55), 3) := by decide +kernel
theorem dX6_split_147 : decode cX6_split 147 = .ok ((.iload 5), 2) := by decide +kernel
theorem dX6_split_149 : decode cX6_split 149 = .ok ((.istore_n 2), 1) := by decide +kernel
theorem dX6_split_150 : decode cX6_split 150 = .ok ((.iinc 3 1), 3) := by decide +kernel
theorem dX6_split_153 : decode cX6_split 153 = .ok ((.goto (-144)), 3) := by decide +kernel
theorem dX6_split_156 : decode cX6_split 156 = .ok ((.aload_n 0), 1) := by decide +kernel
theorem dX6_split_157 : decode cX6_split 157 = .ok ((.iconst 0), 1) := by decide +kernel
theorem dX6_split_158 : decode cX6_split 158 = .ok ((.iload_n 1), 1) := by decide +kernel
theorem dX6_split_159 : decode cX6_split 159 = .ok ((.lconst 0), 1) := by decide +kernel
theorem dX6_split_160 : decode cX6_split 160 = .ok ((.invokevirtual 55), 3) := by decide +kernel
theorem dX6_split_163 : decode cX6_split 163 = .ok ((.aload_n 0), 1) := by decide +kernel
theorem dX6_split_164 : decode cX6_split 164 = .ok ((.iconst (-1)), 1) := by decide +kernel
theorem dX6_split_165 : decode cX6_split 165 = .ok ((.putfield 59), 3) := by decide +kernel
theorem dX6_split_168 : decode cX6_split 168 = .ok ((.aload_n 0), 1) := by decide +kernel
theorem dX6_split_169 : decode cX6_split 169 = .ok ((.invokevirtual 62), 3) := by decide +kernel
theorem dX6_split_172 : decode cX6_split 172 = .ok (.return_, 1) := by decide +kernel
def p_X6_split_156  (a1 : Int32)   (post : vSt → Prop) (S : vSt)  : Prop := p_X6_addToken  S 0 a1 0 (fun S38 => ∀ S39, S39 = v_si S38 5 6 (-1) → p_X6_pass  S39  (fun S40 => post S40))
def p_X6_split_147  (a1 : Int32)  (K9 : vSt → Int32 → Int32 → Prop) (post : vSt → Prop) (S : vSt) (x3 : Int32) (x5 : Int32) : Prop := ∀ y46 : Int32, y46 = x3 + 1 → K9 S x5 y46
def p_X6_split_113  (a1 : Int32)  (K9 : vSt → Int32 → Int32 → Prop) (post : vSt → Prop) (S : vSt) (x2 : Int32) (x3 : Int32) (x4 : Int32) (x5 : Int32) : Prop := p_X6_addToken  S 6 x2 (Int32.toInt64 x4) (fun S45 => p_X6_split_147 a1 K9 post S45 x3 x5)
def p_X6_split_9  (a1 : Int32)   (post : vSt → Prop) : Nat → vSt → Int32 → Int32 → Prop
  | 0 => fun _ _ _ => False
  | fu9 + 1 => fun S x2 x3 => ((a1 < x3 → p_X6_split_156 a1 post S ) ∧ (¬ a1 < x3 → ((a1 ≤ x2 → p_X6_split_156 a1 post S ) ∧ (¬ a1 ≤ x2 → p_X6_byteAt  S x2 (fun r39 S38 => ∀ y40 : Int32, y40 = (x2 + 1) → p_X6_isLetter  S38 r39 (fun r42 S41 => ((r42 = false → p_X6_isDigit  S41 r39 (fun r44 S43 => ((r44 = false → ((r39 = 59 → p_X6_split_113 a1 (p_X6_split_9 a1 post fu9) post S43 x2 x3 r39 y40) ∧ (¬ r39 = 59 → ((r39 = 60 → p_X6_split_113 a1 (p_X6_split_9 a1 post fu9) post S43 x2 x3 r39 y40) ∧ (¬ r39 = 60 → ((r39 = 62 → p_X6_split_113 a1 (p_X6_split_9 a1 post fu9) post S43 x2 x3 r39 y40) ∧ (¬ r39 = 62 → ((¬ r39 = 61 → ((r39 = 10 → p_X6_split_147 a1 (p_X6_split_9 a1 post fu9) post S43 x3 y40) ∧ (¬ r39 = 10 → ((r39 = 32 → p_X6_split_147 a1 (p_X6_split_9 a1 post fu9) post S43 x3 y40) ∧ (¬ r39 = 32 → p_X6_addToken  S43 1 x2 0 (fun S45 => p_X6_split_147 a1 (p_X6_split_9 a1 post fu9) post S45 x3 y40)))))) ∧ (r39 = 61 → p_X6_split_113 a1 (p_X6_split_9 a1 post fu9) post S43 x2 x3 r39 y40))))))))) ∧ (r44 = true → p_X6_runEnd  S43 x2 a1 false (fun r47 S46 => p_X6_addNumber  S46 x2 r47 (fun S48 => p_X6_split_147 a1 (p_X6_split_9 a1 post fu9) post S48 x3 r47)))))) ∧ (r42 = true → p_X6_runEnd  S41 x2 a1 true (fun r50 S49 => p_X6_addWord  S49 x2 r50 (fun S51 => p_X6_split_147 a1 (p_X6_split_9 a1 post fu9) post S51 x3 r50))))))))))
theorem e_X6_split_9  (a1 : Int32)   (post : vSt → Prop) (fu9 : Nat) (S : vSt) (x2 : Int32) (x3 : Int32) : p_X6_split_9 a1 post (fu9 + 1) S x2 x3 = (((a1 < x3 → p_X6_split_156 a1 post S ) ∧ (¬ a1 < x3 → ((a1 ≤ x2 → p_X6_split_156 a1 post S ) ∧ (¬ a1 ≤ x2 → p_X6_byteAt  S x2 (fun r39 S38 => ∀ y40 : Int32, y40 = (x2 + 1) → p_X6_isLetter  S38 r39 (fun r42 S41 => ((r42 = false → p_X6_isDigit  S41 r39 (fun r44 S43 => ((r44 = false → ((r39 = 59 → p_X6_split_113 a1 (p_X6_split_9 a1 post fu9) post S43 x2 x3 r39 y40) ∧ (¬ r39 = 59 → ((r39 = 60 → p_X6_split_113 a1 (p_X6_split_9 a1 post fu9) post S43 x2 x3 r39 y40) ∧ (¬ r39 = 60 → ((r39 = 62 → p_X6_split_113 a1 (p_X6_split_9 a1 post fu9) post S43 x2 x3 r39 y40) ∧ (¬ r39 = 62 → ((¬ r39 = 61 → ((r39 = 10 → p_X6_split_147 a1 (p_X6_split_9 a1 post fu9) post S43 x3 y40) ∧ (¬ r39 = 10 → ((r39 = 32 → p_X6_split_147 a1 (p_X6_split_9 a1 post fu9) post S43 x3 y40) ∧ (¬ r39 = 32 → p_X6_addToken  S43 1 x2 0 (fun S45 => p_X6_split_147 a1 (p_X6_split_9 a1 post fu9) post S45 x3 y40)))))) ∧ (r39 = 61 → p_X6_split_113 a1 (p_X6_split_9 a1 post fu9) post S43 x2 x3 r39 y40))))))))) ∧ (r44 = true → p_X6_runEnd  S43 x2 a1 false (fun r47 S46 => p_X6_addNumber  S46 x2 r47 (fun S48 => p_X6_split_147 a1 (p_X6_split_9 a1 post fu9) post S48 x3 r47)))))) ∧ (r42 = true → p_X6_runEnd  S41 x2 a1 true (fun r50 S49 => p_X6_addWord  S49 x2 r50 (fun S51 => p_X6_split_147 a1 (p_X6_split_9 a1 post fu9) post S51 x3 r50))))))))))) := rfl
def p_X6_split   (S : vSt) (a1 : Int32) (post : vSt → Prop) : Prop := ∀ S37, S37 = v_si S 5 5 0 → ∃ fu9, p_X6_split_9 a1 post fu9 S37 0 0
set_option maxHeartbeats 4000000 in
set_option maxRecDepth 100000 in
theorem q_X6_split_156 {X : vX} {G : vG}  {post : vSt → Prop} (C : v_Cx X G cX6_split RX6 6 (v_rm 6 270)) (D : v_Rx X G (v_Qv G post) none)  {a1 : Int32}   : ∀ (S : vSt), p_X6_split_156 a1 post S  → VJ X G S 156 [(0, .ref (G.1 5)), (1, .int a1)] [] := by
  intro S  h
  refine V_aload_n C 0 dX6_split_156 rfl rfl ?_
  refine V_iconst (v := 0) C dX6_split_157 (by decide) ?_
  refine V_iload_n C 1 dX6_split_158 rfl rfl ?_
  refine V_lconst (v := 0) C dX6_split_159 (by decide) ?_
  refine V_callVv (As := [.int 0, .int a1, .long 0]) (rest := []) C (c_X6_addToken (v_l X) G  _ _ _ _ h) 5 6 (by decide) (by decide) (by decide) rfl KV_X6_addToken k_RX6_55 rfl rfl rfl (Nat.le_of_ble_eq_true rfl) ⟨Nat.le_of_ble_eq_true rfl, Nat.le_of_ble_eq_true rfl⟩ dX6_split_160 (fun S38 h => ?_)
  refine V_aload_n C 0 dX6_split_163 rfl rfl ?_
  refine V_iconst (v := (-1)) C dX6_split_164 (by decide) ?_
  refine V_pi C 5 (by decide) (by decide) P_6_6 k_RX6_59 dX6_split_165 ?_
  refine V_topS (fun S39 eS39 => ?_)
  have h := h S39 eS39
  refine V_aload_n C 0 dX6_split_168 rfl rfl ?_
  refine V_callVv (As := []) (rest := []) C (c_X6_pass (v_l X) G  _ h) 5 6 (by decide) (by decide) (by decide) rfl KV_X6_pass k_RX6_62 rfl rfl rfl (Nat.le_of_ble_eq_true rfl) ⟨Nat.le_of_ble_eq_true rfl, Nat.le_of_ble_eq_true rfl⟩ dX6_split_169 (fun S40 h => ?_)
  exact V_vret C D dX6_split_172 h
set_option maxHeartbeats 4000000 in
set_option maxRecDepth 100000 in
theorem q_X6_split_147 {X : vX} {G : vG}  {post : vSt → Prop} (C : v_Cx X G cX6_split RX6 6 (v_rm 6 270)) (D : v_Rx X G (v_Qv G post) none)  {a1 : Int32}  {K9 : vSt → Int32 → Int32 → Prop} (hK9 : ∀ S x2 x3, K9 S x2 x3 → VJ X G S 9 [(0, .ref (G.1 5)), (1, .int a1), (2, .int x2), (3, .int x3)] []) : ∀ (S : vSt) (x3 : Int32) (x5 : Int32), p_X6_split_147 a1 K9 post S x3 x5 → VJ X G S 147 [(0, .ref (G.1 5)), (1, .int a1), (3, .int x3), (5, .int x5)] [] := by
  intro S x3 x5 h
  refine V_iload C 3 dX6_split_147 rfl ?_
  refine V_istore_n (lv' := [(0, .ref (G.1 5)), (1, .int a1), (2, .int x5), (3, .int x3), (5, .int x5)]) C [1, 2, 0, 3, 4] dX6_split_149 rfl (by decide) rfl ?_
  obtain ⟨y46, ey46⟩ : ∃ z : Int32, z = x3 + 1 := ⟨_, rfl⟩
  have h := h y46 ey46
  refine V_iinc (lv' := [(0, .ref (G.1 5)), (1, .int a1), (2, .int x5), (3, .int y46), (5, .int x5)]) C 3 [1, 2, 3, 0, 4] y46 dX6_split_150 rfl (by rw [ey46]; rfl) (by decide) rfl ?_
  refine V_goto (tgt := 9) C dX6_split_153 (by decide) ?_
  refine V_loc (lv' := [(0, .ref (G.1 5)), (1, .int a1), (2, .int x5), (3, .int y46)]) [0, 1, 2, 3] rfl ?_
  exact hK9 _ _ _ h
set_option maxHeartbeats 4000000 in
set_option maxRecDepth 100000 in
theorem q_X6_split_113 {X : vX} {G : vG}  {post : vSt → Prop} (C : v_Cx X G cX6_split RX6 6 (v_rm 6 270)) (D : v_Rx X G (v_Qv G post) none)  {a1 : Int32}  {K9 : vSt → Int32 → Int32 → Prop} (hK9 : ∀ S x2 x3, K9 S x2 x3 → VJ X G S 9 [(0, .ref (G.1 5)), (1, .int a1), (2, .int x2), (3, .int x3)] []) : ∀ (S : vSt) (x2 : Int32) (x3 : Int32) (x4 : Int32) (x5 : Int32), p_X6_split_113 a1 K9 post S x2 x3 x4 x5 → VJ X G S 113 [(0, .ref (G.1 5)), (1, .int a1), (2, .int x2), (3, .int x3), (4, .int x4), (5, .int x5)] [] := by
  intro S x2 x3 x4 x5 h
  refine V_aload_n C 0 dX6_split_113 rfl rfl ?_
  refine V_bipush (v := 6) C dX6_split_114 (by decide) ?_
  refine V_iload_n C 2 dX6_split_116 rfl rfl ?_
  refine V_iload C 4 dX6_split_117 rfl ?_
  refine V_i2l C dX6_split_119 ?_
  refine V_callVv (As := [.int 6, .int x2, .long (Int32.toInt64 x4)]) (rest := []) C (c_X6_addToken (v_l X) G  _ _ _ _ h) 5 6 (by decide) (by decide) (by decide) rfl KV_X6_addToken k_RX6_55 rfl rfl rfl (Nat.le_of_ble_eq_true rfl) ⟨Nat.le_of_ble_eq_true rfl, Nat.le_of_ble_eq_true rfl⟩ dX6_split_120 (fun S45 h => ?_)
  refine V_goto (tgt := 147) C dX6_split_123 (by decide) ?_
  refine V_loc (lv' := [(0, .ref (G.1 5)), (1, .int a1), (3, .int x3), (5, .int x5)]) [0, 1, 3, 5] rfl ?_
  exact q_X6_split_147 C D hK9 _ _ _ h
set_option maxHeartbeats 4000000 in
set_option maxRecDepth 100000 in
theorem q_X6_split_9 {X : vX} {G : vG}  {post : vSt → Prop} (C : v_Cx X G cX6_split RX6 6 (v_rm 6 270)) (D : v_Rx X G (v_Qv G post) none)  {a1 : Int32}   : ∀ (fu : Nat) (S : vSt) (x2 : Int32) (x3 : Int32), p_X6_split_9 a1 post fu S x2 x3 → VJ X G S 9 [(0, .ref (G.1 5)), (1, .int a1), (2, .int x2), (3, .int x3)] [] := by
  intro fu
  induction fu with
  | zero => intro S x2 x3 h; exact absurd h id
  | succ fu ih =>
    intro S x2 x3 h
    have hK9 := ih
    rw [e_X6_split_9] at h
    refine V_iload_n C 3 dX6_split_9 rfl rfl ?_
    refine V_iload_n C 1 dX6_split_10 rfl rfl ?_
    refine V_icmp_gt (tgt := 156) C dX6_split_11 (by decide) (fun c => ?_) (fun c => ?_)
    · have h := h.1 c
      refine V_loc (lv' := [(0, .ref (G.1 5)), (1, .int a1)]) [0, 1] rfl ?_
      exact q_X6_split_156 C D  _ h
    · have h := h.2 c
      refine V_iload_n C 2 dX6_split_14 rfl rfl ?_
      refine V_iload_n C 1 dX6_split_15 rfl rfl ?_
      refine V_icmp_ge (tgt := 156) C dX6_split_16 (by decide) (fun c => ?_) (fun c => ?_)
      · have h := h.1 c
        refine V_loc (lv' := [(0, .ref (G.1 5)), (1, .int a1)]) [0, 1] rfl ?_
        exact q_X6_split_156 C D  _ h
      · have h := h.2 c
        refine V_aload_n C 0 dX6_split_19 rfl rfl ?_
        refine V_iload_n C 2 dX6_split_20 rfl rfl ?_
        refine V_callVi (As := [.int x2]) (rest := []) C (c_X6_byteAt (v_l X) G  _ _ h) 5 6 (by decide) (by decide) (by decide) rfl KV_X6_byteAt k_RX6_33 rfl rfl rfl (Nat.le_of_ble_eq_true rfl) ⟨Nat.le_of_ble_eq_true rfl, Nat.le_of_ble_eq_true rfl⟩ dX6_split_21 (fun r39 S38 h => ?_)
        refine V_istore (lv' := [(0, .ref (G.1 5)), (1, .int a1), (2, .int x2), (3, .int x3), (4, .int r39)]) C [1, 2, 3, 4, 0] dX6_split_24 (by decide) rfl ?_
        refine V_iload_n C 2 dX6_split_26 rfl rfl ?_
        refine V_iconst (v := 1) C dX6_split_27 (by decide) ?_
        refine V_iadd C dX6_split_28 ?_
        refine V_topi (fun y40 ey40 => ?_)
        have h := h y40 ey40
        refine V_istore (lv' := [(0, .ref (G.1 5)), (1, .int a1), (2, .int x2), (3, .int x3), (4, .int r39), (5, .int y40)]) C [1, 2, 3, 4, 5, 0] dX6_split_29 (by decide) rfl ?_
        refine V_iload C 4 dX6_split_31 rfl ?_
        refine V_callSz (As := [.int r39]) (rest := []) C (c_X6_isLetter (v_l X) G  _ _ h) KV_X6_isLetter k_RX6_37 rfl rfl rfl (Nat.le_of_ble_eq_true rfl) ⟨Nat.le_of_ble_eq_true rfl, Nat.le_of_ble_eq_true rfl⟩ dX6_split_33 (fun r42 S41 h => ?_)
        refine V_ifb_eq (tgt := 58) C dX6_split_36 (by decide) (fun c => ?_) (fun c => ?_)
        · have h := h.1 c
          refine V_iload C 4 dX6_split_58 rfl ?_
          refine V_callSz (As := [.int r39]) (rest := []) C (c_X6_isDigit (v_l X) G  _ _ h) KV_X6_isDigit k_RX6_49 rfl rfl rfl (Nat.le_of_ble_eq_true rfl) ⟨Nat.le_of_ble_eq_true rfl, Nat.le_of_ble_eq_true rfl⟩ dX6_split_60 (fun r44 S43 h => ?_)
          refine V_ifb_eq (tgt := 85) C dX6_split_63 (by decide) (fun c => ?_) (fun c => ?_)
          · have h := h.1 c
            refine V_iload C 4 dX6_split_85 rfl ?_
            refine V_bipush (v := 59) C dX6_split_87 (by decide) ?_
            refine V_icmp_eq (tgt := 113) C dX6_split_89 (by decide) (fun c => ?_) (fun c => ?_)
            · have h := h.1 c
              exact q_X6_split_113 C D hK9 _ _ _ _ _ h
            · have h := h.2 c
              refine V_iload C 4 dX6_split_92 rfl ?_
              refine V_bipush (v := 60) C dX6_split_94 (by decide) ?_
              refine V_icmp_eq (tgt := 113) C dX6_split_96 (by decide) (fun c => ?_) (fun c => ?_)
              · have h := h.1 c
                exact q_X6_split_113 C D hK9 _ _ _ _ _ h
              · have h := h.2 c
                refine V_iload C 4 dX6_split_99 rfl ?_
                refine V_bipush (v := 62) C dX6_split_101 (by decide) ?_
                refine V_icmp_eq (tgt := 113) C dX6_split_103 (by decide) (fun c => ?_) (fun c => ?_)
                · have h := h.1 c
                  exact q_X6_split_113 C D hK9 _ _ _ _ _ h
                · have h := h.2 c
                  refine V_iload C 4 dX6_split_106 rfl ?_
                  refine V_bipush (v := 61) C dX6_split_108 (by decide) ?_
                  refine V_icmp_ne (tgt := 126) C dX6_split_110 (by decide) (fun c => ?_) (fun c => ?_)
                  · have h := h.1 c
                    refine V_iload C 4 dX6_split_126 rfl ?_
                    refine V_bipush (v := 10) C dX6_split_128 (by decide) ?_
                    refine V_icmp_eq (tgt := 147) C dX6_split_130 (by decide) (fun c => ?_) (fun c => ?_)
                    · have h := h.1 c
                      refine V_loc (lv' := [(0, .ref (G.1 5)), (1, .int a1), (3, .int x3), (5, .int y40)]) [0, 1, 3, 5] rfl ?_
                      exact q_X6_split_147 C D hK9 _ _ _ h
                    · have h := h.2 c
                      refine V_iload C 4 dX6_split_133 rfl ?_
                      refine V_bipush (v := 32) C dX6_split_135 (by decide) ?_
                      refine V_icmp_eq (tgt := 147) C dX6_split_137 (by decide) (fun c => ?_) (fun c => ?_)
                      · have h := h.1 c
                        refine V_loc (lv' := [(0, .ref (G.1 5)), (1, .int a1), (3, .int x3), (5, .int y40)]) [0, 1, 3, 5] rfl ?_
                        exact q_X6_split_147 C D hK9 _ _ _ h
                      · have h := h.2 c
                        refine V_aload_n C 0 dX6_split_140 rfl rfl ?_
                        refine V_iconst (v := 1) C dX6_split_141 (by decide) ?_
                        refine V_iload_n C 2 dX6_split_142 rfl rfl ?_
                        refine V_lconst (v := 0) C dX6_split_143 (by decide) ?_
                        refine V_callVv (As := [.int 1, .int x2, .long 0]) (rest := []) C (c_X6_addToken (v_l X) G  _ _ _ _ h) 5 6 (by decide) (by decide) (by decide) rfl KV_X6_addToken k_RX6_55 rfl rfl rfl (Nat.le_of_ble_eq_true rfl) ⟨Nat.le_of_ble_eq_true rfl, Nat.le_of_ble_eq_true rfl⟩ dX6_split_144 (fun S45 h => ?_)
                        refine V_loc (lv' := [(0, .ref (G.1 5)), (1, .int a1), (3, .int x3), (5, .int y40)]) [0, 1, 3, 5] rfl ?_
                        exact q_X6_split_147 C D hK9 _ _ _ h
                  · have h := h.2 c
                    exact q_X6_split_113 C D hK9 _ _ _ _ _ h
          · have h := h.2 c
            refine V_aload_n C 0 dX6_split_66 rfl rfl ?_
            refine V_iload_n C 2 dX6_split_67 rfl rfl ?_
            refine V_iload_n C 1 dX6_split_68 rfl rfl ?_
            refine V_iconst (v := 0) C dX6_split_69 (by decide) ?_
            refine V_callVi (As := [.int x2, .int a1, .int (v_b false)]) (rest := []) C (c_X6_runEnd (v_l X) G  _ _ _ _ h) 5 6 (by decide) (by decide) (by decide) rfl KV_X6_runEnd k_RX6_41 rfl rfl rfl (Nat.le_of_ble_eq_true rfl) ⟨Nat.le_of_ble_eq_true rfl, Nat.le_of_ble_eq_true rfl⟩ dX6_split_70 (fun r47 S46 h => ?_)
            refine V_istore (lv' := [(0, .ref (G.1 5)), (1, .int a1), (2, .int x2), (3, .int x3), (4, .int r39), (5, .int r47)]) C [1, 2, 3, 4, 5, 0] dX6_split_73 (by decide) rfl ?_
            refine V_aload_n C 0 dX6_split_75 rfl rfl ?_
            refine V_iload_n C 2 dX6_split_76 rfl rfl ?_
            refine V_iload C 5 dX6_split_77 rfl ?_
            refine V_callVv (As := [.int x2, .int r47]) (rest := []) C (c_X6_addNumber (v_l X) G  _ _ _ h) 5 6 (by decide) (by decide) (by decide) rfl KV_X6_addNumber k_RX6_52 rfl rfl rfl (Nat.le_of_ble_eq_true rfl) ⟨Nat.le_of_ble_eq_true rfl, Nat.le_of_ble_eq_true rfl⟩ dX6_split_79 (fun S48 h => ?_)
            refine V_goto (tgt := 147) C dX6_split_82 (by decide) ?_
            refine V_loc (lv' := [(0, .ref (G.1 5)), (1, .int a1), (3, .int x3), (5, .int r47)]) [0, 1, 3, 5] rfl ?_
            exact q_X6_split_147 C D hK9 _ _ _ h
        · have h := h.2 c
          refine V_aload_n C 0 dX6_split_39 rfl rfl ?_
          refine V_iload_n C 2 dX6_split_40 rfl rfl ?_
          refine V_iload_n C 1 dX6_split_41 rfl rfl ?_
          refine V_iconst (v := 1) C dX6_split_42 (by decide) ?_
          refine V_callVi (As := [.int x2, .int a1, .int (v_b true)]) (rest := []) C (c_X6_runEnd (v_l X) G  _ _ _ _ h) 5 6 (by decide) (by decide) (by decide) rfl KV_X6_runEnd k_RX6_41 rfl rfl rfl (Nat.le_of_ble_eq_true rfl) ⟨Nat.le_of_ble_eq_true rfl, Nat.le_of_ble_eq_true rfl⟩ dX6_split_43 (fun r50 S49 h => ?_)
          refine V_istore (lv' := [(0, .ref (G.1 5)), (1, .int a1), (2, .int x2), (3, .int x3), (4, .int r39), (5, .int r50)]) C [1, 2, 3, 4, 5, 0] dX6_split_46 (by decide) rfl ?_
          refine V_aload_n C 0 dX6_split_48 rfl rfl ?_
          refine V_iload_n C 2 dX6_split_49 rfl rfl ?_
          refine V_iload C 5 dX6_split_50 rfl ?_
          refine V_callVv (As := [.int x2, .int r50]) (rest := []) C (c_X6_addWord (v_l X) G  _ _ _ h) 5 6 (by decide) (by decide) (by decide) rfl KV_X6_addWord k_RX6_45 rfl rfl rfl (Nat.le_of_ble_eq_true rfl) ⟨Nat.le_of_ble_eq_true rfl, Nat.le_of_ble_eq_true rfl⟩ dX6_split_52 (fun S51 h => ?_)
          refine V_goto (tgt := 147) C dX6_split_55 (by decide) ?_
          refine V_loc (lv' := [(0, .ref (G.1 5)), (1, .int a1), (3, .int x3), (5, .int r50)]) [0, 1, 3, 5] rfl ?_
          exact q_X6_split_147 C D hK9 _ _ _ h
set_option maxHeartbeats 4000000 in
set_option maxRecDepth 100000 in
theorem c_X6_split (l : Launch) (G : vG)    {S : vSt} (a1 : Int32) (post : vSt → Prop) (h : p_X6_split   S a1 post) : Met l yX6_split (v_ws yX6_split cX6_split 6 none) (v_rm 6 270) (v_Pc G [.ref (G.1 5), .int a1] S) (v_Qv G post) 0 0 (v_A G) := by
  refine v_start (by decide +kernel) (Nat.le_of_ble_eq_true rfl) (fun X hl C D => ?_)
  subst hl
  have C : v_Cx X G cX6_split RX6 6 (v_rm 6 270) := C
  show VJ X G S 0 [(0, .ref (G.1 5)), (1, .int a1)] []
  refine V_aload_n C 0 dX6_split_0 rfl rfl ?_
  refine V_iconst (v := 0) C dX6_split_1 (by decide) ?_
  refine V_pi C 5 (by decide) (by decide) P_6_5 k_RX6_30 dX6_split_2 ?_
  refine V_topS (fun S37 eS37 => ?_)
  have h := h S37 eS37
  refine V_iconst (v := 0) C dX6_split_5 (by decide) ?_
  refine V_istore_n (lv' := [(0, .ref (G.1 5)), (1, .int a1), (2, .int 0)]) C [1, 2, 0] dX6_split_6 rfl (by decide) rfl ?_
  refine V_iconst (v := 0) C dX6_split_7 (by decide) ?_
  refine V_istore_n (lv' := [(0, .ref (G.1 5)), (1, .int a1), (2, .int 0), (3, .int 0)]) C [1, 2, 3, 0] dX6_split_8 rfl (by decide) rfl ?_
  obtain ⟨fu9, h⟩ := h
  exact q_X6_split_9 C D  fu9 _ _ _ h
/-! HalfAccuser$Years.add(IIII)I -/
theorem dX8_add_0 : decode cX8_add 0 = .ok ((.aload_n 0), 1) := by decide +kernel
theorem dX8_add_1 : decode cX8_add 1 = .ok ((.getfield 30), 3) := by decide +kernel
theorem dX8_add_4 : decode cX8_add 4 = .ok ((.istore 5), 2) := by decide +kernel
theorem dX8_add_6 : decode cX8_add 6 = .ok ((.aload_n 0), 1) := by decide +kernel
theorem dX8_add_7 : decode cX8_add 7 = .ok (.dup, 1) := by decide +kernel
theorem dX8_add_8 : decode cX8_add 8 = .ok ((.getfield 30), 3) := by decide +kernel
theorem dX8_add_11 : decode cX8_add 11 = .ok ((.iconst 1), 1) := by decide +kernel
theorem dX8_add_12 : decode cX8_add 12 = .ok (.iadd, 1) := by decide +kernel
theorem dX8_add_13 : decode cX8_add 13 = .ok ((.putfield 30), 3) := by decide +kernel
theorem dX8_add_16 : decode cX8_add 16 = .ok ((.aload_n 0), 1) := by decide +kernel
theorem dX8_add_17 : decode cX8_add 17 = .ok ((.getfield 11), 3) := by decide +kernel
theorem dX8_add_20 : decode cX8_add 20 = .ok ((.iload 5), 2) := by decide +kernel
theorem dX8_add_22 : decode cX8_add 22 = .ok ((.iload_n 1), 1) := by decide +kernel
theorem dX8_add_23 : decode cX8_add 23 = .ok ((.invokestatic 45), 3) := by decide +kernel
theorem dX8_add_26 : decode cX8_add 26 = .ok ((.aload_n 0), 1) := by decide +kernel
theorem dX8_add_27 : decode cX8_add 27 = .ok ((.getfield 15), 3) := by decide +kernel
theorem dX8_add_30 : decode cX8_add 30 = .ok ((.iload 5), 2) := by decide +kernel
theorem dX8_add_32 : decode cX8_add 32 = .ok ((.iload_n 2), 1) := by decide +kernel
theorem dX8_add_33 : decode cX8_add 33 = .ok ((.invokestatic 45), 3) := by decide +kernel
theorem dX8_add_36 : decode cX8_add 36 = .ok ((.aload_n 0), 1) := by decide +kernel
theorem dX8_add_37 : decode cX8_add 37 = .ok ((.getfield 18), 3) := by decide +kernel
theorem dX8_add_40 : decode cX8_add 40 = .ok ((.iload 5), 2) := by decide +kernel
theorem dX8_add_42 : decode cX8_add 42 = .ok ((.iload_n 3), 1) := by decide +kernel
theorem dX8_add_43 : decode cX8_add 43 = .ok ((.invokestatic 45), 3) := by decide +kernel
theorem dX8_add_46 : decode cX8_add 46 = .ok ((.aload_n 0), 1) := by decide +kernel
theorem dX8_add_47 : decode cX8_add 47 = .ok ((.getfield 21), 3) := by decide +kernel
theorem dX8_add_50 : decode cX8_add 50 = .ok ((.iload 5), 2) := by decide +kernel
theorem dX8_add_52 : decode cX8_add 52 = .ok ((.iload 4), 2) := by decide +kernel
theorem dX8_add_54 : decode cX8_add 54 = .ok ((.invokestatic 45), 3) := by decide +kernel
theorem dX8_add_57 : decode cX8_add 57 = .ok ((.iload_n 1), 1) := by decide +kernel
theorem dX8_add_58 : decode cX8_add 58 = .ok ((.bipush 20), 2) := by decide +kernel
theorem dX8_add_60 : decode cX8_add 60 = .ok ((.if_icmp .eq 13), 3) := by decide +kernel
theorem dX8_add_63 : decode cX8_add 63 = .ok ((.aload_n 0), 1) := by decide +kernel
theorem dX8_add_64 : decode cX8_add 64 = .ok (.dup, 1) := by decide +kernel
theorem dX8_add_65 : decode cX8_add 65 = .ok ((.getfield 34), 3) := by decide +kernel
theorem dX8_add_68 : decode cX8_add 68 = .ok ((.iconst 1), 1) := by decide +kernel
theorem dX8_add_69 : decode cX8_add 69 = .ok (.iadd, 1) := by decide +kernel
theorem dX8_add_70 : decode cX8_add 70 = .ok ((.putfield 34), 3) := by decide +kernel
theorem dX8_add_73 : decode cX8_add 73 = .ok ((.iload 5), 2) := by decide +kernel
theorem dX8_add_75 : decode cX8_add 75 = .ok (.ireturn, 1) := by decide +kernel
def p_X8_add (b : Nat)  (S : vSt) (a1 : Int32) (a2 : Int32) (a3 : Int32) (a4 : Int32) (post : Int32 → vSt → Prop) : Prop := ∀ y8 : Int32, y8 = (S.1 (b + 15) 6) → ∀ S9, S9 = v_si S (b + 15) 6 ((S.1 (b + 15) 6) + 1) → p_X10_put (b + 16) 60 S9 y8 a1 (fun S10 => p_X10_put (b + 17) 60 S10 y8 a2 (fun S11 => p_X10_put (b + 18) 60 S11 y8 a3 (fun S12 => p_X10_put (b + 19) 60 S12 y8 a4 (fun S13 => ((a1 = 20 → post y8 S13) ∧ (¬ a1 = 20 → ∀ S14, S14 = v_si S13 (b + 15) 7 ((S13.1 (b + 15) 7) + 1) → post y8 S14))))))
set_option maxHeartbeats 4000000 in
set_option maxRecDepth 100000 in
theorem c_X8_add (l : Launch) (G : vG)  {b : Nat} (hb : v_isC b)  {S : vSt} (a1 : Int32) (a2 : Int32) (a3 : Int32) (a4 : Int32) (post : Int32 → vSt → Prop) (h : p_X8_add b  S a1 a2 a3 a4 post) : Met l yX8_add (v_ws yX8_add cX8_add 6 (some .int)) (v_rm 1 62) (v_Pc G [.ref (G.1 (b + 15)), .int a1, .int a2, .int a3, .int a4] S) (v_Qi G post) 0 0 (v_A G) := by
  refine v_start (by decide +kernel) (Nat.le_of_ble_eq_true rfl) (fun X hl C D => ?_)
  subst hl
  have C : v_Cx X G cX8_add RX8 6 (v_rm 1 62) := C
  show VJ X G S 0 [(0, .ref (G.1 (b + 15))), (1, .int a1), (2, .int a2), (3, .int a3), (4, .int a4)] []
  refine V_aload_n C 0 dX8_add_0 rfl rfl ?_
  refine V_gi C (b + 15) (v_cb hb 15 (by decide)) (v_co15 hb) F_8_6 k_RX8_30 dX8_add_1 ?_
  refine V_topi (fun y8 ey8 => ?_)
  have h := h y8 ey8
  refine V_istore (lv' := [(0, .ref (G.1 (b + 15))), (1, .int a1), (2, .int a2), (3, .int a3), (4, .int a4), (5, .int y8)]) C [1, 2, 3, 4, 5, 0] dX8_add_4 (by decide) rfl ?_
  refine V_aload_n C 0 dX8_add_6 rfl rfl ?_
  refine V_dup C dX8_add_7 rfl ?_
  refine V_gi C (b + 15) (v_cb hb 15 (by decide)) (v_co15 hb) F_8_6 k_RX8_30 dX8_add_8 ?_
  refine V_iconst (v := 1) C dX8_add_11 (by decide) ?_
  refine V_iadd C dX8_add_12 ?_
  refine V_pi C (b + 15) (v_cb hb 15 (by decide)) (v_co15 hb) P_8_6 k_RX8_30 dX8_add_13 ?_
  refine V_topS (fun S9 eS9 => ?_)
  have h := h S9 eS9
  refine V_aload_n C 0 dX8_add_16 rfl rfl ?_
  refine V_gr C (b + 15) (v_cb hb 15 (by decide)) (v_co15 hb) F_8_0 k_RX8_11 dX8_add_17 ?_
  refine V_iload C 5 dX8_add_20 rfl ?_
  refine V_iload_n C 1 dX8_add_22 rfl rfl ?_
  refine V_callSNv (As := [.ref (G.1 (b + 16)), .int y8, .int a1]) (rest := []) C (c_X10_put (v_l X) G (v_cb hb 16 (by decide)) (v_ca16 hb) _ _ _ h) KV_X10_put (List.mem_of_getElem? (i := 33) rfl) rfl rfl rfl (Nat.le_of_ble_eq_true rfl) ⟨Nat.le_of_ble_eq_true rfl, Nat.le_of_ble_eq_true rfl⟩ dX8_add_23 (fun S10 h => ?_)
  refine V_aload_n C 0 dX8_add_26 rfl rfl ?_
  refine V_gr C (b + 15) (v_cb hb 15 (by decide)) (v_co15 hb) F_8_1 k_RX8_15 dX8_add_27 ?_
  refine V_iload C 5 dX8_add_30 rfl ?_
  refine V_iload_n C 2 dX8_add_32 rfl rfl ?_
  refine V_callSNv (As := [.ref (G.1 (b + 17)), .int y8, .int a2]) (rest := []) C (c_X10_put (v_l X) G (v_cb hb 17 (by decide)) (v_ca17 hb) _ _ _ h) KV_X10_put (List.mem_of_getElem? (i := 33) rfl) rfl rfl rfl (Nat.le_of_ble_eq_true rfl) ⟨Nat.le_of_ble_eq_true rfl, Nat.le_of_ble_eq_true rfl⟩ dX8_add_33 (fun S11 h => ?_)
  refine V_aload_n C 0 dX8_add_36 rfl rfl ?_
  refine V_gr C (b + 15) (v_cb hb 15 (by decide)) (v_co15 hb) F_8_2 k_RX8_18 dX8_add_37 ?_
  refine V_iload C 5 dX8_add_40 rfl ?_
  refine V_iload_n C 3 dX8_add_42 rfl rfl ?_
  refine V_callSNv (As := [.ref (G.1 (b + 18)), .int y8, .int a3]) (rest := []) C (c_X10_put (v_l X) G (v_cb hb 18 (by decide)) (v_ca18 hb) _ _ _ h) KV_X10_put (List.mem_of_getElem? (i := 33) rfl) rfl rfl rfl (Nat.le_of_ble_eq_true rfl) ⟨Nat.le_of_ble_eq_true rfl, Nat.le_of_ble_eq_true rfl⟩ dX8_add_43 (fun S12 h => ?_)
  refine V_aload_n C 0 dX8_add_46 rfl rfl ?_
  refine V_gr C (b + 15) (v_cb hb 15 (by decide)) (v_co15 hb) F_8_3 k_RX8_21 dX8_add_47 ?_
  refine V_iload C 5 dX8_add_50 rfl ?_
  refine V_iload C 4 dX8_add_52 rfl ?_
  refine V_callSNv (As := [.ref (G.1 (b + 19)), .int y8, .int a4]) (rest := []) C (c_X10_put (v_l X) G (v_cb hb 19 (by decide)) (v_ca19 hb) _ _ _ h) KV_X10_put (List.mem_of_getElem? (i := 33) rfl) rfl rfl rfl (Nat.le_of_ble_eq_true rfl) ⟨Nat.le_of_ble_eq_true rfl, Nat.le_of_ble_eq_true rfl⟩ dX8_add_54 (fun S13 h => ?_)
  refine V_iload_n C 1 dX8_add_57 rfl rfl ?_
  refine V_bipush (v := 20) C dX8_add_58 (by decide) ?_
  refine V_icmp_eq (tgt := 73) C dX8_add_60 (by decide) (fun c => ?_) (fun c => ?_)
  · have h := h.1 c
    refine V_iload C 5 dX8_add_73 rfl ?_
    exact V_iret C D dX8_add_75 h
  · have h := h.2 c
    refine V_aload_n C 0 dX8_add_63 rfl rfl ?_
    refine V_dup C dX8_add_64 rfl ?_
    refine V_gi C (b + 15) (v_cb hb 15 (by decide)) (v_co15 hb) F_8_7 k_RX8_34 dX8_add_65 ?_
    refine V_iconst (v := 1) C dX8_add_68 (by decide) ?_
    refine V_iadd C dX8_add_69 ?_
    refine V_pi C (b + 15) (v_cb hb 15 (by decide)) (v_co15 hb) P_8_7 k_RX8_34 dX8_add_70 ?_
    refine V_topS (fun S14 eS14 => ?_)
    have h := h S14 eS14
    refine V_iload C 5 dX8_add_73 rfl ?_
    exact V_iret C D dX8_add_75 h
/-! HalfAccuser$Years.join(II)V -/
theorem dX8_join_0 : decode cX8_join 0 = .ok ((.aload_n 0), 1) := by decide +kernel
theorem dX8_join_1 : decode cX8_join 1 = .ok ((.getfield 24), 3) := by decide +kernel
theorem dX8_join_4 : decode cX8_join 4 = .ok ((.iload_n 1), 1) := by decide +kernel
theorem dX8_join_5 : decode cX8_join 5 = .ok ((.iload_n 2), 1) := by decide +kernel
theorem dX8_join_6 : decode cX8_join 6 = .ok ((.invokestatic 45), 3) := by decide +kernel
theorem dX8_join_9 : decode cX8_join 9 = .ok ((.aload_n 0), 1) := by decide +kernel
theorem dX8_join_10 : decode cX8_join 10 = .ok ((.getfield 24), 3) := by decide +kernel
theorem dX8_join_13 : decode cX8_join 13 = .ok ((.iload_n 2), 1) := by decide +kernel
theorem dX8_join_14 : decode cX8_join 14 = .ok ((.iload_n 1), 1) := by decide +kernel
theorem dX8_join_15 : decode cX8_join 15 = .ok ((.invokestatic 45), 3) := by decide +kernel
theorem dX8_join_18 : decode cX8_join 18 = .ok (.return_, 1) := by decide +kernel
def p_X8_join (b : Nat)  (S : vSt) (a1 : Int32) (a2 : Int32) (post : vSt → Prop) : Prop := p_X10_put (b + 20) 60 S a1 a2 (fun S3 => p_X10_put (b + 20) 60 S3 a2 a1 (fun S4 => post S4))
set_option maxHeartbeats 4000000 in
set_option maxRecDepth 100000 in
theorem c_X8_join (l : Launch) (G : vG)  {b : Nat} (hb : v_isC b)  {S : vSt} (a1 : Int32) (a2 : Int32) (post : vSt → Prop) (h : p_X8_join b  S a1 a2 post) : Met l yX8_join (v_ws yX8_join cX8_join 3 none) (v_rm 1 62) (v_Pc G [.ref (G.1 (b + 15)), .int a1, .int a2] S) (v_Qv G post) 0 0 (v_A G) := by
  refine v_start (by decide +kernel) (Nat.le_of_ble_eq_true rfl) (fun X hl C D => ?_)
  subst hl
  have C : v_Cx X G cX8_join RX8 3 (v_rm 1 62) := C
  show VJ X G S 0 [(0, .ref (G.1 (b + 15))), (1, .int a1), (2, .int a2)] []
  refine V_aload_n C 0 dX8_join_0 rfl rfl ?_
  refine V_gr C (b + 15) (v_cb hb 15 (by decide)) (v_co15 hb) F_8_4 k_RX8_24 dX8_join_1 ?_
  refine V_iload_n C 1 dX8_join_4 rfl rfl ?_
  refine V_iload_n C 2 dX8_join_5 rfl rfl ?_
  refine V_callSNv (As := [.ref (G.1 (b + 20)), .int a1, .int a2]) (rest := []) C (c_X10_put (v_l X) G (v_cb hb 20 (by decide)) (v_ca20 hb) _ _ _ h) KV_X10_put (List.mem_of_getElem? (i := 33) rfl) rfl rfl rfl (Nat.le_of_ble_eq_true rfl) ⟨Nat.le_of_ble_eq_true rfl, Nat.le_of_ble_eq_true rfl⟩ dX8_join_6 (fun S3 h => ?_)
  refine V_aload_n C 0 dX8_join_9 rfl rfl ?_
  refine V_gr C (b + 15) (v_cb hb 15 (by decide)) (v_co15 hb) F_8_4 k_RX8_24 dX8_join_10 ?_
  refine V_iload_n C 2 dX8_join_13 rfl rfl ?_
  refine V_iload_n C 1 dX8_join_14 rfl rfl ?_
  refine V_callSNv (As := [.ref (G.1 (b + 20)), .int a2, .int a1]) (rest := []) C (c_X10_put (v_l X) G (v_cb hb 20 (by decide)) (v_ca20 hb) _ _ _ h) KV_X10_put (List.mem_of_getElem? (i := 33) rfl) rfl rfl rfl (Nat.le_of_ble_eq_true rfl) ⟨Nat.le_of_ble_eq_true rfl, Nat.le_of_ble_eq_true rfl⟩ dX8_join_15 (fun S4 h => ?_)
  exact V_vret C D dX8_join_18 h
/-! HalfAccuser$YearsReader.readEnd()Z -/
theorem dX9_readEnd_0 : decode cX9_readEnd 0 = .ok ((.aload_n 0), 1) := by decide +kernel
theorem dX9_readEnd_1 : decode cX9_readEnd 1 = .ok ((.getfield 36), 3) := by decide +kernel
theorem dX9_readEnd_4 : decode cX9_readEnd 4 = .ok ((.ifCond .gt 12), 3) := by decide +kernel
theorem dX9_readEnd_7 : decode cX9_readEnd 7 = .ok ((.aload_n 0), 1) := by decide +kernel
theorem dX9_readEnd_8 : decode cX9_readEnd 8 = .ok ((.getfield 15), 3) := by decide +kernel
theorem dX9_readEnd_11 : decode cX9_readEnd 11 = .ok ((.iconst 2), 1) := by decide +kernel
theorem dX9_readEnd_12 : decode cX9_readEnd 12 = .ok ((.invokevirtual 56), 3) := by decide +kernel
theorem dX9_readEnd_15 : decode cX9_readEnd 15 = .ok (.ireturn, 1) := by decide +kernel
theorem dX9_readEnd_16 : decode cX9_readEnd 16 = .ok ((.aload_n 0), 1) := by decide +kernel
theorem dX9_readEnd_17 : decode cX9_readEnd 17 = .ok (.dup, 1) := by decide +kernel
theorem dX9_readEnd_18 : decode cX9_readEnd 18 = .ok ((.getfield 36), 3) := by decide +kernel
theorem dX9_readEnd_21 : decode cX9_readEnd 21 = .ok ((.iconst 1), 1) := by decide +kernel
theorem dX9_readEnd_22 : decode cX9_readEnd 22 = .ok (.isub, 1) := by decide +kernel
theorem dX9_readEnd_23 : decode cX9_readEnd 23 = .ok ((.putfield 36), 3) := by decide +kernel
theorem dX9_readEnd_26 : decode cX9_readEnd 26 = .ok ((.aload_n 0), 1) := by decide +kernel
theorem dX9_readEnd_27 : decode cX9_readEnd 27 = .ok ((.getfield 23), 3) := by decide +kernel
theorem dX9_readEnd_30 : decode cX9_readEnd 30 = .ok ((.aload_n 0), 1) := by decide +kernel
theorem dX9_readEnd_31 : decode cX9_readEnd 31 = .ok ((.getfield 11), 3) := by decide +kernel
theorem dX9_readEnd_34 : decode cX9_readEnd 34 = .ok ((.aload_n 0), 1) := by decide +kernel
theorem dX9_readEnd_35 : decode cX9_readEnd 35 = .ok ((.getfield 36), 3) := by decide +kernel
theorem dX9_readEnd_38 : decode cX9_readEnd 38 = .ok ((.invokestatic 59), 3) := by decide +kernel
theorem dX9_readEnd_41 : decode cX9_readEnd 41 = .ok ((.aload_n 0), 1) := by decide +kernel
theorem dX9_readEnd_42 : decode cX9_readEnd 42 = .ok ((.getfield 23), 3) := by decide +kernel
theorem dX9_readEnd_45 : decode cX9_readEnd 45 = .ok ((.bipush 20), 2) := by decide +kernel
theorem dX9_readEnd_47 : decode cX9_readEnd 47 = .ok ((.iconst (-1)), 1) := by decide +kernel
theorem dX9_readEnd_48 : decode cX9_readEnd 48 = .ok ((.iconst (-1)), 1) := by decide +kernel
theorem dX9_readEnd_49 : decode cX9_readEnd 49 = .ok ((.iconst 0), 1) := by decide +kernel
theorem dX9_readEnd_50 : decode cX9_readEnd 50 = .ok ((.invokevirtual 63), 3) := by decide +kernel
theorem dX9_readEnd_53 : decode cX9_readEnd 53 = .ok ((.invokevirtual 67), 3) := by decide +kernel
theorem dX9_readEnd_56 : decode cX9_readEnd 56 = .ok ((.aload_n 0), 1) := by decide +kernel
theorem dX9_readEnd_57 : decode cX9_readEnd 57 = .ok ((.getfield 15), 3) := by decide +kernel
theorem dX9_readEnd_60 : decode cX9_readEnd 60 = .ok ((.invokevirtual 71), 3) := by decide +kernel
theorem dX9_readEnd_63 : decode cX9_readEnd 63 = .ok ((.aload_n 0), 1) := by decide +kernel
theorem dX9_readEnd_64 : decode cX9_readEnd 64 = .ok ((.getfield 15), 3) := by decide +kernel
theorem dX9_readEnd_67 : decode cX9_readEnd 67 = .ok ((.invokevirtual 74), 3) := by decide +kernel
theorem dX9_readEnd_70 : decode cX9_readEnd 70 = .ok (.ireturn, 1) := by decide +kernel
def p_X9_readEnd   (S : vSt)  (post : Bool → vSt → Prop) : Prop := ((0 < (S.1 56 4) → ∀ S12, S12 = v_si S 56 4 ((S.1 56 4) - 1) → p_X10_at 57 3 S12 (S12.1 56 4) (fun r14 S13 => p_X8_add 32 S13 20 (-1) (-1) 0 (fun r16 S15 => p_X8_join 32 S15 r14 r16 (fun S17 => p_X6_pass  S17  (fun S18 => p_X6_takeSemicolon  S18  (fun r20 S19 => post r20 S19)))))) ∧ (¬ 0 < (S.1 56 4) → p_X6_blame  S 2 (fun r22 S21 => post r22 S21)))
set_option maxHeartbeats 4000000 in
set_option maxRecDepth 100000 in
theorem c_X9_readEnd (l : Launch) (G : vG)    {S : vSt}  (post : Bool → vSt → Prop) (h : p_X9_readEnd   S  post) : Met l yX9_readEnd (v_ws yX9_readEnd cX9_readEnd 1 (some .boolean)) (v_rm 3 101) (v_Pc G [.ref (G.1 56)] S) (v_Qz G post) 0 0 (v_A G) := by
  refine v_start (by decide +kernel) (Nat.le_of_ble_eq_true rfl) (fun X hl C D => ?_)
  subst hl
  have C : v_Cx X G cX9_readEnd RX9 1 (v_rm 3 101) := C
  show VJ X G S 0 [(0, .ref (G.1 56))] []
  refine V_aload_n C 0 dX9_readEnd_0 rfl rfl ?_
  refine V_gi C 56 (by decide) (by decide) F_9_4 k_RX9_36 dX9_readEnd_1 ?_
  refine V_if_gt (tgt := 16) C dX9_readEnd_4 (by decide) (fun c => ?_) (fun c => ?_)
  · have h := h.1 c
    refine V_aload_n C 0 dX9_readEnd_16 rfl rfl ?_
    refine V_dup C dX9_readEnd_17 rfl ?_
    refine V_gi C 56 (by decide) (by decide) F_9_4 k_RX9_36 dX9_readEnd_18 ?_
    refine V_iconst (v := 1) C dX9_readEnd_21 (by decide) ?_
    refine V_isub C dX9_readEnd_22 ?_
    refine V_pi C 56 (by decide) (by decide) P_9_4 k_RX9_36 dX9_readEnd_23 ?_
    refine V_topS (fun S12 eS12 => ?_)
    have h := h S12 eS12
    refine V_aload_n C 0 dX9_readEnd_26 rfl rfl ?_
    refine V_ga C 56 (by decide) (by decide) F_9_2 k_RX9_23 dX9_readEnd_27 ?_
    refine V_aload_n C 0 dX9_readEnd_30 rfl rfl ?_
    refine V_ga C 56 (by decide) (by decide) F_9_3 k_RX9_11 dX9_readEnd_31 ?_
    refine V_aload_n C 0 dX9_readEnd_34 rfl rfl ?_
    refine V_gi C 56 (by decide) (by decide) F_9_4 k_RX9_36 dX9_readEnd_35 ?_
    refine V_callSNi (As := [.ref (G.1 57), .int (S12.1 56 4)]) (rest := [.ref (G.1 47)]) C (c_X10_at (v_l X) G (by decide) (by decide) _ _ h) KV_X10_at (List.mem_of_getElem? (i := 32) rfl) rfl rfl rfl (Nat.le_of_ble_eq_true rfl) ⟨Nat.le_of_ble_eq_true rfl, Nat.le_of_ble_eq_true rfl⟩ dX9_readEnd_38 (fun r14 S13 h => ?_)
    refine V_aload_n C 0 dX9_readEnd_41 rfl rfl ?_
    refine V_ga C 56 (by decide) (by decide) F_9_2 k_RX9_23 dX9_readEnd_42 ?_
    refine V_bipush (v := 20) C dX9_readEnd_45 (by decide) ?_
    refine V_iconst (v := (-1)) C dX9_readEnd_47 (by decide) ?_
    refine V_iconst (v := (-1)) C dX9_readEnd_48 (by decide) ?_
    refine V_iconst (v := 0) C dX9_readEnd_49 (by decide) ?_
    refine V_callVi (As := [.int 20, .int (-1), .int (-1), .int 0]) (rest := [.int r14, .ref (G.1 47)]) C (c_X8_add (v_l X) G v_i32 _ _ _ _ _ h) 47 8 (by decide) (by decide) (by decide) rfl KV_X8_add k_RX9_63 rfl rfl rfl (Nat.le_of_ble_eq_true rfl) ⟨Nat.le_of_ble_eq_true rfl, Nat.le_of_ble_eq_true rfl⟩ dX9_readEnd_50 (fun r16 S15 h => ?_)
    refine V_callVv (As := [.int r14, .int r16]) (rest := []) C (c_X8_join (v_l X) G v_i32 _ _ _ h) 47 8 (by decide) (by decide) (by decide) rfl KV_X8_join k_RX9_67 rfl rfl rfl (Nat.le_of_ble_eq_true rfl) ⟨Nat.le_of_ble_eq_true rfl, Nat.le_of_ble_eq_true rfl⟩ dX9_readEnd_53 (fun S17 h => ?_)
    refine V_aload_n C 0 dX9_readEnd_56 rfl rfl ?_
    refine V_ga C 56 (by decide) (by decide) F_9_0 k_RX9_15 dX9_readEnd_57 ?_
    refine V_callVv (As := []) (rest := []) C (c_X6_pass (v_l X) G  _ h) 5 6 (by decide) (by decide) (by decide) rfl KV_X6_pass k_RX9_71 rfl rfl rfl (Nat.le_of_ble_eq_true rfl) ⟨Nat.le_of_ble_eq_true rfl, Nat.le_of_ble_eq_true rfl⟩ dX9_readEnd_60 (fun S18 h => ?_)
    refine V_aload_n C 0 dX9_readEnd_63 rfl rfl ?_
    refine V_ga C 56 (by decide) (by decide) F_9_0 k_RX9_15 dX9_readEnd_64 ?_
    refine V_callVz (As := []) (rest := []) C (c_X6_takeSemicolon (v_l X) G  _ h) 5 6 (by decide) (by decide) (by decide) rfl KV_X6_takeSemicolon k_RX9_74 rfl rfl rfl (Nat.le_of_ble_eq_true rfl) ⟨Nat.le_of_ble_eq_true rfl, Nat.le_of_ble_eq_true rfl⟩ dX9_readEnd_67 (fun r20 S19 h => ?_)
    exact V_zret C D dX9_readEnd_70 h
  · have h := h.2 c
    refine V_aload_n C 0 dX9_readEnd_7 rfl rfl ?_
    refine V_ga C 56 (by decide) (by decide) F_9_0 k_RX9_15 dX9_readEnd_8 ?_
    refine V_iconst (v := 2) C dX9_readEnd_11 (by decide) ?_
    refine V_callVz (As := [.int 2]) (rest := []) C (c_X6_blame (v_l X) G  _ _ h) 5 6 (by decide) (by decide) (by decide) rfl KV_X6_blame k_RX9_56 rfl rfl rfl (Nat.le_of_ble_eq_true rfl) ⟨Nat.le_of_ble_eq_true rfl, Nat.le_of_ble_eq_true rfl⟩ dX9_readEnd_12 (fun r22 S21 h => ?_)
    exact V_zret C D dX9_readEnd_15 h
/-! HalfAccuser$YearsReader.beginsStep(I)Z -/
theorem dX9_beginsStep_0 : decode cX9_beginsStep 0 = .ok ((.iload_n 0), 1) := by decide +kernel
theorem dX9_beginsStep_1 : decode cX9_beginsStep 1 = .ok ((.bipush 11), 2) := by decide +kernel
theorem dX9_beginsStep_3 : decode cX9_beginsStep 3 = .ok ((.if_icmp .eq 39), 3) := by decide +kernel
theorem dX9_beginsStep_6 : decode cX9_beginsStep 6 = .ok ((.iload_n 0), 1) := by decide +kernel
theorem dX9_beginsStep_7 : decode cX9_beginsStep 7 = .ok ((.bipush 12), 2) := by decide +kernel
theorem dX9_beginsStep_9 : decode cX9_beginsStep 9 = .ok ((.if_icmp .eq 33), 3) := by decide +kernel
theorem dX9_beginsStep_12 : decode cX9_beginsStep 12 = .ok ((.iload_n 0), 1) := by decide +kernel
theorem dX9_beginsStep_13 : decode cX9_beginsStep 13 = .ok ((.bipush 14), 2) := by decide +kernel
theorem dX9_beginsStep_15 : decode cX9_beginsStep 15 = .ok ((.if_icmp .eq 27), 3) := by decide +kernel
theorem dX9_beginsStep_18 : decode cX9_beginsStep 18 = .ok ((.iload_n 0), 1) := by decide +kernel
theorem dX9_beginsStep_19 : decode cX9_beginsStep 19 = .ok ((.bipush 15), 2) := by decide +kernel
theorem dX9_beginsStep_21 : decode cX9_beginsStep 21 = .ok ((.if_icmp .eq 21), 3) := by decide +kernel
theorem dX9_beginsStep_24 : decode cX9_beginsStep 24 = .ok ((.iload_n 0), 1) := by decide +kernel
theorem dX9_beginsStep_25 : decode cX9_beginsStep 25 = .ok ((.bipush 16), 2) := by decide +kernel
theorem dX9_beginsStep_27 : decode cX9_beginsStep 27 = .ok ((.if_icmp .eq 15), 3) := by decide +kernel
theorem dX9_beginsStep_30 : decode cX9_beginsStep 30 = .ok ((.iload_n 0), 1) := by decide +kernel
theorem dX9_beginsStep_31 : decode cX9_beginsStep 31 = .ok ((.bipush 19), 2) := by decide +kernel
theorem dX9_beginsStep_33 : decode cX9_beginsStep 33 = .ok ((.if_icmp .eq 9), 3) := by decide +kernel
theorem dX9_beginsStep_36 : decode cX9_beginsStep 36 = .ok ((.iload_n 0), 1) := by decide +kernel
theorem dX9_beginsStep_37 : decode cX9_beginsStep 37 = .ok ((.bipush 21), 2) := by decide +kernel
theorem dX9_beginsStep_39 : decode cX9_beginsStep 39 = .ok ((.if_icmp .ne 7), 3) := by decide +kernel
theorem dX9_beginsStep_42 : decode cX9_beginsStep 42 = .ok ((.iconst 1), 1) := by decide +kernel
theorem dX9_beginsStep_43 : decode cX9_beginsStep 43 = .ok ((.goto 4), 3) := by decide +kernel
theorem dX9_beginsStep_46 : decode cX9_beginsStep 46 = .ok ((.iconst 0), 1) := by decide +kernel
theorem dX9_beginsStep_47 : decode cX9_beginsStep 47 = .ok (.ireturn, 1) := by decide +kernel
def p_X9_beginsStep   (S : vSt) (a0 : Int32) (post : Bool → vSt → Prop) : Prop := ((a0 = 11 → post true S) ∧ (¬ a0 = 11 → ((a0 = 12 → post true S) ∧ (¬ a0 = 12 → ((a0 = 14 → post true S) ∧ (¬ a0 = 14 → ((a0 = 15 → post true S) ∧ (¬ a0 = 15 → ((a0 = 16 → post true S) ∧ (¬ a0 = 16 → ((a0 = 19 → post true S) ∧ (¬ a0 = 19 → ((¬ a0 = 21 → post false S) ∧ (a0 = 21 → post true S))))))))))))))
set_option maxHeartbeats 4000000 in
set_option maxRecDepth 100000 in
theorem c_X9_beginsStep (l : Launch) (G : vG)    {S : vSt} (a0 : Int32) (post : Bool → vSt → Prop) (h : p_X9_beginsStep   S a0 post) : Met l yX9_beginsStep (v_ws yX9_beginsStep cX9_beginsStep 1 (some .boolean)) (v_rm 0 40) (v_Pc G [.int a0] S) (v_Qz G post) 0 0 (v_A G) := by
  refine v_start (by decide +kernel) (Nat.le_of_ble_eq_true rfl) (fun X hl C D => ?_)
  subst hl
  have C : v_Cx X G cX9_beginsStep RX9 1 (v_rm 0 40) := C
  show VJ X G S 0 [(0, .int a0)] []
  refine V_iload_n C 0 dX9_beginsStep_0 rfl rfl ?_
  refine V_bipush (v := 11) C dX9_beginsStep_1 (by decide) ?_
  refine V_icmp_eq (tgt := 42) C dX9_beginsStep_3 (by decide) (fun c => ?_) (fun c => ?_)
  · have h := h.1 c
    refine V_iconst (v := 1) C dX9_beginsStep_42 (by decide) ?_
    refine V_goto (tgt := 47) C dX9_beginsStep_43 (by decide) ?_
    exact V_zret1 C D dX9_beginsStep_47 h
  · have h := h.2 c
    refine V_iload_n C 0 dX9_beginsStep_6 rfl rfl ?_
    refine V_bipush (v := 12) C dX9_beginsStep_7 (by decide) ?_
    refine V_icmp_eq (tgt := 42) C dX9_beginsStep_9 (by decide) (fun c => ?_) (fun c => ?_)
    · have h := h.1 c
      refine V_iconst (v := 1) C dX9_beginsStep_42 (by decide) ?_
      refine V_goto (tgt := 47) C dX9_beginsStep_43 (by decide) ?_
      exact V_zret1 C D dX9_beginsStep_47 h
    · have h := h.2 c
      refine V_iload_n C 0 dX9_beginsStep_12 rfl rfl ?_
      refine V_bipush (v := 14) C dX9_beginsStep_13 (by decide) ?_
      refine V_icmp_eq (tgt := 42) C dX9_beginsStep_15 (by decide) (fun c => ?_) (fun c => ?_)
      · have h := h.1 c
        refine V_iconst (v := 1) C dX9_beginsStep_42 (by decide) ?_
        refine V_goto (tgt := 47) C dX9_beginsStep_43 (by decide) ?_
        exact V_zret1 C D dX9_beginsStep_47 h
      · have h := h.2 c
        refine V_iload_n C 0 dX9_beginsStep_18 rfl rfl ?_
        refine V_bipush (v := 15) C dX9_beginsStep_19 (by decide) ?_
        refine V_icmp_eq (tgt := 42) C dX9_beginsStep_21 (by decide) (fun c => ?_) (fun c => ?_)
        · have h := h.1 c
          refine V_iconst (v := 1) C dX9_beginsStep_42 (by decide) ?_
          refine V_goto (tgt := 47) C dX9_beginsStep_43 (by decide) ?_
          exact V_zret1 C D dX9_beginsStep_47 h
        · have h := h.2 c
          refine V_iload_n C 0 dX9_beginsStep_24 rfl rfl ?_
          refine V_bipush (v := 16) C dX9_beginsStep_25 (by decide) ?_
          refine V_icmp_eq (tgt := 42) C dX9_beginsStep_27 (by decide) (fun c => ?_) (fun c => ?_)
          · have h := h.1 c
            refine V_iconst (v := 1) C dX9_beginsStep_42 (by decide) ?_
            refine V_goto (tgt := 47) C dX9_beginsStep_43 (by decide) ?_
            exact V_zret1 C D dX9_beginsStep_47 h
          · have h := h.2 c
            refine V_iload_n C 0 dX9_beginsStep_30 rfl rfl ?_
            refine V_bipush (v := 19) C dX9_beginsStep_31 (by decide) ?_
            refine V_icmp_eq (tgt := 42) C dX9_beginsStep_33 (by decide) (fun c => ?_) (fun c => ?_)
            · have h := h.1 c
              refine V_iconst (v := 1) C dX9_beginsStep_42 (by decide) ?_
              refine V_goto (tgt := 47) C dX9_beginsStep_43 (by decide) ?_
              exact V_zret1 C D dX9_beginsStep_47 h
            · have h := h.2 c
              refine V_iload_n C 0 dX9_beginsStep_36 rfl rfl ?_
              refine V_bipush (v := 21) C dX9_beginsStep_37 (by decide) ?_
              refine V_icmp_ne (tgt := 46) C dX9_beginsStep_39 (by decide) (fun c => ?_) (fun c => ?_)
              · have h := h.1 c
                refine V_iconst (v := 0) C dX9_beginsStep_46 (by decide) ?_
                exact V_zret0 C D dX9_beginsStep_47 h
              · have h := h.2 c
                refine V_iconst (v := 1) C dX9_beginsStep_42 (by decide) ?_
                refine V_goto (tgt := 47) C dX9_beginsStep_43 (by decide) ?_
                exact V_zret1 C D dX9_beginsStep_47 h
/-! HalfAccuser$YearsReader.deedNow()I -/
theorem dX9_deedNow_0 : decode cX9_deedNow 0 = .ok ((.aload_n 0), 1) := by decide +kernel
theorem dX9_deedNow_1 : decode cX9_deedNow 1 = .ok ((.getfield 19), 3) := by decide +kernel
theorem dX9_deedNow_4 : decode cX9_deedNow 4 = .ok ((.aload_n 0), 1) := by decide +kernel
theorem dX9_deedNow_5 : decode cX9_deedNow 5 = .ok ((.getfield 15), 3) := by decide +kernel
theorem dX9_deedNow_8 : decode cX9_deedNow 8 = .ok ((.getfield 128), 3) := by decide +kernel
theorem dX9_deedNow_11 : decode cX9_deedNow 11 = .ok ((.invokevirtual 144), 3) := by decide +kernel
theorem dX9_deedNow_14 : decode cX9_deedNow 14 = .ok (.ireturn, 1) := by decide +kernel
def p_X9_deedNow   (S : vSt)  (post : Int32 → vSt → Prop) : Prop := p_X0_deedBy 10 S (S.2 5 9) (fun r4 S3 => post r4 S3)
set_option maxHeartbeats 4000000 in
set_option maxRecDepth 100000 in
theorem c_X9_deedNow (l : Launch) (G : vG)    {S : vSt}  (post : Int32 → vSt → Prop) (h : p_X9_deedNow   S  post) : Met l yX9_deedNow (v_ws yX9_deedNow cX9_deedNow 1 (some .int)) (v_rm 2 84) (v_Pc G [.ref (G.1 56)] S) (v_Qi G post) 0 0 (v_A G) := by
  refine v_start (by decide +kernel) (Nat.le_of_ble_eq_true rfl) (fun X hl C D => ?_)
  subst hl
  have C : v_Cx X G cX9_deedNow RX9 1 (v_rm 2 84) := C
  show VJ X G S 0 [(0, .ref (G.1 56))] []
  refine V_aload_n C 0 dX9_deedNow_0 rfl rfl ?_
  refine V_ga C 56 (by decide) (by decide) F_9_1 k_RX9_19 dX9_deedNow_1 ?_
  refine V_aload_n C 0 dX9_deedNow_4 rfl rfl ?_
  refine V_ga C 56 (by decide) (by decide) F_9_0 k_RX9_15 dX9_deedNow_5 ?_
  refine V_gl C 5 (by decide) (by decide) F_6_9 k_RX9_128 dX9_deedNow_8 ?_
  refine V_callVi (As := [.long (S.2 5 9)]) (rest := []) C (c_X0_deedBy (v_l X) G v_i10 _ _ h) 10 0 (by decide) (by decide) (by decide) rfl KV_X0_deedBy k_RX9_144 rfl rfl rfl (Nat.le_of_ble_eq_true rfl) ⟨Nat.le_of_ble_eq_true rfl, Nat.le_of_ble_eq_true rfl⟩ dX9_deedNow_11 (fun r4 S3 h => ?_)
  exact V_iret C D dX9_deedNow_14 h
/-! HalfAccuser$YearsReader.personNow()I -/
theorem dX9_personNow_0 : decode cX9_personNow 0 = .ok ((.aload_n 0), 1) := by decide +kernel
theorem dX9_personNow_1 : decode cX9_personNow 1 = .ok ((.getfield 19), 3) := by decide +kernel
theorem dX9_personNow_4 : decode cX9_personNow 4 = .ok ((.aload_n 0), 1) := by decide +kernel
theorem dX9_personNow_5 : decode cX9_personNow 5 = .ok ((.getfield 15), 3) := by decide +kernel
theorem dX9_personNow_8 : decode cX9_personNow 8 = .ok ((.getfield 128), 3) := by decide +kernel
theorem dX9_personNow_11 : decode cX9_personNow 11 = .ok ((.invokevirtual 138), 3) := by decide +kernel
theorem dX9_personNow_14 : decode cX9_personNow 14 = .ok (.ireturn, 1) := by decide +kernel
def p_X9_personNow   (S : vSt)  (post : Int32 → vSt → Prop) : Prop := p_X0_personBy 10 S (S.2 5 9) (fun r4 S3 => post r4 S3)
set_option maxHeartbeats 4000000 in
set_option maxRecDepth 100000 in
theorem c_X9_personNow (l : Launch) (G : vG)    {S : vSt}  (post : Int32 → vSt → Prop) (h : p_X9_personNow   S  post) : Met l yX9_personNow (v_ws yX9_personNow cX9_personNow 1 (some .int)) (v_rm 2 84) (v_Pc G [.ref (G.1 56)] S) (v_Qi G post) 0 0 (v_A G) := by
  refine v_start (by decide +kernel) (Nat.le_of_ble_eq_true rfl) (fun X hl C D => ?_)
  subst hl
  have C : v_Cx X G cX9_personNow RX9 1 (v_rm 2 84) := C
  show VJ X G S 0 [(0, .ref (G.1 56))] []
  refine V_aload_n C 0 dX9_personNow_0 rfl rfl ?_
  refine V_ga C 56 (by decide) (by decide) F_9_1 k_RX9_19 dX9_personNow_1 ?_
  refine V_aload_n C 0 dX9_personNow_4 rfl rfl ?_
  refine V_ga C 56 (by decide) (by decide) F_9_0 k_RX9_15 dX9_personNow_5 ?_
  refine V_gl C 5 (by decide) (by decide) F_6_9 k_RX9_128 dX9_personNow_8 ?_
  refine V_callVi (As := [.long (S.2 5 9)]) (rest := []) C (c_X0_personBy (v_l X) G v_i10 _ _ h) 10 0 (by decide) (by decide) (by decide) rfl KV_X0_personBy k_RX9_138 rfl rfl rfl (Nat.le_of_ble_eq_true rfl) ⟨Nat.le_of_ble_eq_true rfl, Nat.le_of_ble_eq_true rfl⟩ dX9_personNow_11 (fun r4 S3 h => ?_)
  exact V_iret C D dX9_personNow_14 h
/-! HalfAccuser$YearsReader.takeNamed(I)Z -/
theorem dX9_takeNamed_0 : decode cX9_takeNamed 0 = .ok ((.aload_n 0), 1) := by decide +kernel
theorem dX9_takeNamed_1 : decode cX9_takeNamed 1 = .ok ((.getfield 15), 3) := by decide +kernel
theorem dX9_takeNamed_4 : decode cX9_takeNamed 4 = .ok ((.getfield 42), 3) := by decide +kernel
theorem dX9_takeNamed_7 : decode cX9_takeNamed 7 = .ok ((.iconst 3), 1) := by decide +kernel
theorem dX9_takeNamed_8 : decode cX9_takeNamed 8 = .ok ((.if_icmp .eq 12), 3) := by decide +kernel
theorem dX9_takeNamed_11 : decode cX9_takeNamed 11 = .ok ((.aload_n 0), 1) := by decide +kernel
theorem dX9_takeNamed_12 : decode cX9_takeNamed 12 = .ok ((.getfield 15), 3) := by decide +kernel
theorem dX9_takeNamed_15 : decode cX9_takeNamed 15 = .ok ((.iconst 2), 1) := by decide +kernel
theorem dX9_takeNamed_16 : decode cX9_takeNamed 16 = .ok ((.invokevirtual 56), 3) := by decide +kernel
theorem dX9_takeNamed_19 : decode cX9_takeNamed 19 = .ok (.ireturn, 1) := by decide +kernel
theorem dX9_takeNamed_20 : decode cX9_takeNamed 20 = .ok ((.iload_n 1), 1) := by decide +kernel
theorem dX9_takeNamed_21 : decode cX9_takeNamed 21 = .ok ((.iconst (-1)), 1) := by decide +kernel
theorem dX9_takeNamed_22 : decode cX9_takeNamed 22 = .ok ((.if_icmp .ne 12), 3) := by decide +kernel
theorem dX9_takeNamed_25 : decode cX9_takeNamed 25 = .ok ((.aload_n 0), 1) := by decide +kernel
theorem dX9_takeNamed_26 : decode cX9_takeNamed 26 = .ok ((.getfield 15), 3) := by decide +kernel
theorem dX9_takeNamed_29 : decode cX9_takeNamed 29 = .ok ((.iconst 3), 1) := by decide +kernel
theorem dX9_takeNamed_30 : decode cX9_takeNamed 30 = .ok ((.invokevirtual 56), 3) := by decide +kernel
theorem dX9_takeNamed_33 : decode cX9_takeNamed 33 = .ok (.ireturn, 1) := by decide +kernel
theorem dX9_takeNamed_34 : decode cX9_takeNamed 34 = .ok ((.aload_n 0), 1) := by decide +kernel
theorem dX9_takeNamed_35 : decode cX9_takeNamed 35 = .ok ((.iload_n 1), 1) := by decide +kernel
theorem dX9_takeNamed_36 : decode cX9_takeNamed 36 = .ok ((.putfield 108), 3) := by decide +kernel
theorem dX9_takeNamed_39 : decode cX9_takeNamed 39 = .ok ((.aload_n 0), 1) := by decide +kernel
theorem dX9_takeNamed_40 : decode cX9_takeNamed 40 = .ok ((.getfield 15), 3) := by decide +kernel
theorem dX9_takeNamed_43 : decode cX9_takeNamed 43 = .ok ((.invokevirtual 71), 3) := by decide +kernel
theorem dX9_takeNamed_46 : decode cX9_takeNamed 46 = .ok ((.iconst 1), 1) := by decide +kernel
theorem dX9_takeNamed_47 : decode cX9_takeNamed 47 = .ok (.ireturn, 1) := by decide +kernel
def p_X9_takeNamed   (S : vSt) (a1 : Int32) (post : Bool → vSt → Prop) : Prop := (((S.1 5 7) = 3 → ((¬ a1 = (-1) → ∀ S7, S7 = v_si S 56 5 a1 → p_X6_pass  S7  (fun S8 => post true S8)) ∧ (a1 = (-1) → p_X6_blame  S 3 (fun r10 S9 => post r10 S9)))) ∧ (¬ (S.1 5 7) = 3 → p_X6_blame  S 2 (fun r12 S11 => post r12 S11)))
set_option maxHeartbeats 4000000 in
set_option maxRecDepth 100000 in
theorem c_X9_takeNamed (l : Launch) (G : vG)    {S : vSt} (a1 : Int32) (post : Bool → vSt → Prop) (h : p_X9_takeNamed   S a1 post) : Met l yX9_takeNamed (v_ws yX9_takeNamed cX9_takeNamed 2 (some .boolean)) (v_rm 2 81) (v_Pc G [.ref (G.1 56), .int a1] S) (v_Qz G post) 0 0 (v_A G) := by
  refine v_start (by decide +kernel) (Nat.le_of_ble_eq_true rfl) (fun X hl C D => ?_)
  subst hl
  have C : v_Cx X G cX9_takeNamed RX9 2 (v_rm 2 81) := C
  show VJ X G S 0 [(0, .ref (G.1 56)), (1, .int a1)] []
  refine V_aload_n C 0 dX9_takeNamed_0 rfl rfl ?_
  refine V_ga C 56 (by decide) (by decide) F_9_0 k_RX9_15 dX9_takeNamed_1 ?_
  refine V_gi C 5 (by decide) (by decide) F_6_7 k_RX9_42 dX9_takeNamed_4 ?_
  refine V_iconst (v := 3) C dX9_takeNamed_7 (by decide) ?_
  refine V_icmp_eq (tgt := 20) C dX9_takeNamed_8 (by decide) (fun c => ?_) (fun c => ?_)
  · have h := h.1 c
    refine V_iload_n C 1 dX9_takeNamed_20 rfl rfl ?_
    refine V_iconst (v := (-1)) C dX9_takeNamed_21 (by decide) ?_
    refine V_icmp_ne (tgt := 34) C dX9_takeNamed_22 (by decide) (fun c => ?_) (fun c => ?_)
    · have h := h.1 c
      refine V_aload_n C 0 dX9_takeNamed_34 rfl rfl ?_
      refine V_iload_n C 1 dX9_takeNamed_35 rfl rfl ?_
      refine V_pi C 56 (by decide) (by decide) P_9_5 k_RX9_108 dX9_takeNamed_36 ?_
      refine V_topS (fun S7 eS7 => ?_)
      have h := h S7 eS7
      refine V_aload_n C 0 dX9_takeNamed_39 rfl rfl ?_
      refine V_ga C 56 (by decide) (by decide) F_9_0 k_RX9_15 dX9_takeNamed_40 ?_
      refine V_callVv (As := []) (rest := []) C (c_X6_pass (v_l X) G  _ h) 5 6 (by decide) (by decide) (by decide) rfl KV_X6_pass k_RX9_71 rfl rfl rfl (Nat.le_of_ble_eq_true rfl) ⟨Nat.le_of_ble_eq_true rfl, Nat.le_of_ble_eq_true rfl⟩ dX9_takeNamed_43 (fun S8 h => ?_)
      refine V_iconst (v := 1) C dX9_takeNamed_46 (by decide) ?_
      exact V_zret1 C D dX9_takeNamed_47 h
    · have h := h.2 c
      refine V_aload_n C 0 dX9_takeNamed_25 rfl rfl ?_
      refine V_ga C 56 (by decide) (by decide) F_9_0 k_RX9_15 dX9_takeNamed_26 ?_
      refine V_iconst (v := 3) C dX9_takeNamed_29 (by decide) ?_
      refine V_callVz (As := [.int 3]) (rest := []) C (c_X6_blame (v_l X) G  _ _ h) 5 6 (by decide) (by decide) (by decide) rfl KV_X6_blame k_RX9_56 rfl rfl rfl (Nat.le_of_ble_eq_true rfl) ⟨Nat.le_of_ble_eq_true rfl, Nat.le_of_ble_eq_true rfl⟩ dX9_takeNamed_30 (fun r10 S9 h => ?_)
      exact V_zret C D dX9_takeNamed_33 h
  · have h := h.2 c
    refine V_aload_n C 0 dX9_takeNamed_11 rfl rfl ?_
    refine V_ga C 56 (by decide) (by decide) F_9_0 k_RX9_15 dX9_takeNamed_12 ?_
    refine V_iconst (v := 2) C dX9_takeNamed_15 (by decide) ?_
    refine V_callVz (As := [.int 2]) (rest := []) C (c_X6_blame (v_l X) G  _ _ h) 5 6 (by decide) (by decide) (by decide) rfl KV_X6_blame k_RX9_56 rfl rfl rfl (Nat.le_of_ble_eq_true rfl) ⟨Nat.le_of_ble_eq_true rfl, Nat.le_of_ble_eq_true rfl⟩ dX9_takeNamed_16 (fun r12 S11 h => ?_)
    exact V_zret C D dX9_takeNamed_19 h
/-! HalfAccuser$YearsReader.readCharge()Z -/
theorem dX9_readCharge_0 : decode cX9_readCharge 0 = .ok ((.aload_n 0), 1) := by decide +kernel
theorem dX9_readCharge_1 : decode cX9_readCharge 1 = .ok ((.aload_n 0), 1) := by decide +kernel
theorem dX9_readCharge_2 : decode cX9_readCharge 2 = .ok ((.invokevirtual 102), 3) := by decide +kernel
theorem dX9_readCharge_5 : decode cX9_readCharge 5 = .ok ((.invokevirtual 105), 3) := by decide +kernel
theorem dX9_readCharge_8 : decode cX9_readCharge 8 = .ok ((.ifCond .ne 5), 3) := by decide +kernel
theorem dX9_readCharge_11 : decode cX9_readCharge 11 = .ok ((.iconst 0), 1) := by decide +kernel
theorem dX9_readCharge_12 : decode cX9_readCharge 12 = .ok (.ireturn, 1) := by decide +kernel
theorem dX9_readCharge_13 : decode cX9_readCharge 13 = .ok ((.aload_n 0), 1) := by decide +kernel
theorem dX9_readCharge_14 : decode cX9_readCharge 14 = .ok ((.getfield 108), 3) := by decide +kernel
theorem dX9_readCharge_17 : decode cX9_readCharge 17 = .ok ((.istore_n 1), 1) := by decide +kernel
theorem dX9_readCharge_18 : decode cX9_readCharge 18 = .ok ((.aload_n 0), 1) := by decide +kernel
theorem dX9_readCharge_19 : decode cX9_readCharge 19 = .ok ((.aload_n 0), 1) := by decide +kernel
theorem dX9_readCharge_20 : decode cX9_readCharge 20 = .ok ((.invokevirtual 111), 3) := by decide +kernel
theorem dX9_readCharge_23 : decode cX9_readCharge 23 = .ok ((.invokevirtual 105), 3) := by decide +kernel
theorem dX9_readCharge_26 : decode cX9_readCharge 26 = .ok ((.ifCond .ne 5), 3) := by decide +kernel
theorem dX9_readCharge_29 : decode cX9_readCharge 29 = .ok ((.iconst 0), 1) := by decide +kernel
theorem dX9_readCharge_30 : decode cX9_readCharge 30 = .ok (.ireturn, 1) := by decide +kernel
theorem dX9_readCharge_31 : decode cX9_readCharge 31 = .ok ((.aload_n 0), 1) := by decide +kernel
theorem dX9_readCharge_32 : decode cX9_readCharge 32 = .ok ((.getfield 23), 3) := by decide +kernel
theorem dX9_readCharge_35 : decode cX9_readCharge 35 = .ok ((.bipush 11), 2) := by decide +kernel
theorem dX9_readCharge_37 : decode cX9_readCharge 37 = .ok ((.iload_n 1), 1) := by decide +kernel
theorem dX9_readCharge_38 : decode cX9_readCharge 38 = .ok ((.aload_n 0), 1) := by decide +kernel
theorem dX9_readCharge_39 : decode cX9_readCharge 39 = .ok ((.getfield 108), 3) := by decide +kernel
theorem dX9_readCharge_42 : decode cX9_readCharge 42 = .ok ((.iconst 0), 1) := by decide +kernel
theorem dX9_readCharge_43 : decode cX9_readCharge 43 = .ok ((.invokevirtual 63), 3) := by decide +kernel
theorem dX9_readCharge_46 : decode cX9_readCharge 46 = .ok (.pop, 1) := by decide +kernel
theorem dX9_readCharge_47 : decode cX9_readCharge 47 = .ok ((.iconst 1), 1) := by decide +kernel
theorem dX9_readCharge_48 : decode cX9_readCharge 48 = .ok (.ireturn, 1) := by decide +kernel
def p_X9_readCharge   (S : vSt)  (post : Bool → vSt → Prop) : Prop := p_X9_personNow  S  (fun r13 S12 => p_X9_takeNamed  S12 r13 (fun r15 S14 => ((r15 = true → ∀ y16 : Int32, y16 = (S14.1 56 5) → p_X9_deedNow  S14  (fun r18 S17 => p_X9_takeNamed  S17 r18 (fun r20 S19 => ((r20 = true → p_X8_add 32 S19 11 y16 (S19.1 56 5) 0 (fun r22 S21 => post true S21)) ∧ (r20 = false → post false S19))))) ∧ (r15 = false → post false S14))))
set_option maxHeartbeats 4000000 in
set_option maxRecDepth 100000 in
theorem c_X9_readCharge (l : Launch) (G : vG)    {S : vSt}  (post : Bool → vSt → Prop) (h : p_X9_readCharge   S  post) : Met l yX9_readCharge (v_ws yX9_readCharge cX9_readCharge 2 (some .boolean)) (v_rm 3 104) (v_Pc G [.ref (G.1 56)] S) (v_Qz G post) 0 0 (v_A G) := by
  refine v_start (by decide +kernel) (Nat.le_of_ble_eq_true rfl) (fun X hl C D => ?_)
  subst hl
  have C : v_Cx X G cX9_readCharge RX9 2 (v_rm 3 104) := C
  show VJ X G S 0 [(0, .ref (G.1 56))] []
  refine V_aload_n C 0 dX9_readCharge_0 rfl rfl ?_
  refine V_aload_n C 0 dX9_readCharge_1 rfl rfl ?_
  refine V_callVi (As := []) (rest := [.ref (G.1 56)]) C (c_X9_personNow (v_l X) G  _ h) 56 9 (by decide) (by decide) (by decide) rfl KV_X9_personNow k_RX9_102 rfl rfl rfl (Nat.le_of_ble_eq_true rfl) ⟨Nat.le_of_ble_eq_true rfl, Nat.le_of_ble_eq_true rfl⟩ dX9_readCharge_2 (fun r13 S12 h => ?_)
  refine V_callVz (As := [.int r13]) (rest := []) C (c_X9_takeNamed (v_l X) G  _ _ h) 56 9 (by decide) (by decide) (by decide) rfl KV_X9_takeNamed k_RX9_105 rfl rfl rfl (Nat.le_of_ble_eq_true rfl) ⟨Nat.le_of_ble_eq_true rfl, Nat.le_of_ble_eq_true rfl⟩ dX9_readCharge_5 (fun r15 S14 h => ?_)
  refine V_ifb_ne (tgt := 13) C dX9_readCharge_8 (by decide) (fun c => ?_) (fun c => ?_)
  · have h := h.1 c
    refine V_aload_n C 0 dX9_readCharge_13 rfl rfl ?_
    refine V_gi C 56 (by decide) (by decide) F_9_5 k_RX9_108 dX9_readCharge_14 ?_
    refine V_topi (fun y16 ey16 => ?_)
    have h := h y16 ey16
    refine V_istore_n (lv' := [(0, .ref (G.1 56)), (1, .int y16)]) C [1, 0] dX9_readCharge_17 rfl (by decide) rfl ?_
    refine V_aload_n C 0 dX9_readCharge_18 rfl rfl ?_
    refine V_aload_n C 0 dX9_readCharge_19 rfl rfl ?_
    refine V_callVi (As := []) (rest := [.ref (G.1 56)]) C (c_X9_deedNow (v_l X) G  _ h) 56 9 (by decide) (by decide) (by decide) rfl KV_X9_deedNow k_RX9_111 rfl rfl rfl (Nat.le_of_ble_eq_true rfl) ⟨Nat.le_of_ble_eq_true rfl, Nat.le_of_ble_eq_true rfl⟩ dX9_readCharge_20 (fun r18 S17 h => ?_)
    refine V_callVz (As := [.int r18]) (rest := []) C (c_X9_takeNamed (v_l X) G  _ _ h) 56 9 (by decide) (by decide) (by decide) rfl KV_X9_takeNamed k_RX9_105 rfl rfl rfl (Nat.le_of_ble_eq_true rfl) ⟨Nat.le_of_ble_eq_true rfl, Nat.le_of_ble_eq_true rfl⟩ dX9_readCharge_23 (fun r20 S19 h => ?_)
    refine V_ifb_ne (tgt := 31) C dX9_readCharge_26 (by decide) (fun c => ?_) (fun c => ?_)
    · have h := h.1 c
      refine V_aload_n C 0 dX9_readCharge_31 rfl rfl ?_
      refine V_ga C 56 (by decide) (by decide) F_9_2 k_RX9_23 dX9_readCharge_32 ?_
      refine V_bipush (v := 11) C dX9_readCharge_35 (by decide) ?_
      refine V_iload_n C 1 dX9_readCharge_37 rfl rfl ?_
      refine V_aload_n C 0 dX9_readCharge_38 rfl rfl ?_
      refine V_gi C 56 (by decide) (by decide) F_9_5 k_RX9_108 dX9_readCharge_39 ?_
      refine V_iconst (v := 0) C dX9_readCharge_42 (by decide) ?_
      refine V_callVi (As := [.int 11, .int y16, .int (S19.1 56 5), .int 0]) (rest := []) C (c_X8_add (v_l X) G v_i32 _ _ _ _ _ h) 47 8 (by decide) (by decide) (by decide) rfl KV_X8_add k_RX9_63 rfl rfl rfl (Nat.le_of_ble_eq_true rfl) ⟨Nat.le_of_ble_eq_true rfl, Nat.le_of_ble_eq_true rfl⟩ dX9_readCharge_43 (fun r22 S21 h => ?_)
      refine V_pop C dX9_readCharge_46 rfl ?_
      refine V_iconst (v := 1) C dX9_readCharge_47 (by decide) ?_
      exact V_zret1 C D dX9_readCharge_48 h
    · have h := h.2 c
      refine V_iconst (v := 0) C dX9_readCharge_29 (by decide) ?_
      exact V_zret0 C D dX9_readCharge_30 h
  · have h := h.2 c
    refine V_iconst (v := 0) C dX9_readCharge_11 (by decide) ?_
    exact V_zret0 C D dX9_readCharge_12 h
/-! HalfAccuser$YearsReader.readDrop()Z -/
theorem dX9_readDrop_0 : decode cX9_readDrop 0 = .ok ((.aload_n 0), 1) := by decide +kernel
theorem dX9_readDrop_1 : decode cX9_readDrop 1 = .ok ((.aload_n 0), 1) := by decide +kernel
theorem dX9_readDrop_2 : decode cX9_readDrop 2 = .ok ((.invokevirtual 102), 3) := by decide +kernel
theorem dX9_readDrop_5 : decode cX9_readDrop 5 = .ok ((.invokevirtual 105), 3) := by decide +kernel
theorem dX9_readDrop_8 : decode cX9_readDrop 8 = .ok ((.ifCond .ne 5), 3) := by decide +kernel
theorem dX9_readDrop_11 : decode cX9_readDrop 11 = .ok ((.iconst 0), 1) := by decide +kernel
theorem dX9_readDrop_12 : decode cX9_readDrop 12 = .ok (.ireturn, 1) := by decide +kernel
theorem dX9_readDrop_13 : decode cX9_readDrop 13 = .ok ((.aload_n 0), 1) := by decide +kernel
theorem dX9_readDrop_14 : decode cX9_readDrop 14 = .ok ((.getfield 108), 3) := by decide +kernel
theorem dX9_readDrop_17 : decode cX9_readDrop 17 = .ok ((.istore_n 1), 1) := by decide +kernel
theorem dX9_readDrop_18 : decode cX9_readDrop 18 = .ok ((.aload_n 0), 1) := by decide +kernel
theorem dX9_readDrop_19 : decode cX9_readDrop 19 = .ok ((.aload_n 0), 1) := by decide +kernel
theorem dX9_readDrop_20 : decode cX9_readDrop 20 = .ok ((.invokevirtual 111), 3) := by decide +kernel
theorem dX9_readDrop_23 : decode cX9_readDrop 23 = .ok ((.invokevirtual 105), 3) := by decide +kernel
theorem dX9_readDrop_26 : decode cX9_readDrop 26 = .ok ((.ifCond .eq 29), 3) := by decide +kernel
theorem dX9_readDrop_29 : decode cX9_readDrop 29 = .ok ((.aload_n 0), 1) := by decide +kernel
theorem dX9_readDrop_30 : decode cX9_readDrop 30 = .ok ((.getfield 15), 3) := by decide +kernel
theorem dX9_readDrop_33 : decode cX9_readDrop 33 = .ok ((.bipush 13), 2) := by decide +kernel
theorem dX9_readDrop_35 : decode cX9_readDrop 35 = .ok ((.invokevirtual 114), 3) := by decide +kernel
theorem dX9_readDrop_38 : decode cX9_readDrop 38 = .ok ((.ifCond .eq 17), 3) := by decide +kernel
theorem dX9_readDrop_41 : decode cX9_readDrop 41 = .ok ((.aload_n 0), 1) := by decide +kernel
theorem dX9_readDrop_42 : decode cX9_readDrop 42 = .ok ((.getfield 15), 3) := by decide +kernel
theorem dX9_readDrop_45 : decode cX9_readDrop 45 = .ok ((.iconst 0), 1) := by decide +kernel
theorem dX9_readDrop_46 : decode cX9_readDrop 46 = .ok ((.sipush 9999), 3) := by decide +kernel
theorem dX9_readDrop_49 : decode cX9_readDrop 49 = .ok ((.invokevirtual 117), 3) := by decide +kernel
theorem dX9_readDrop_52 : decode cX9_readDrop 52 = .ok ((.ifCond .ne 5), 3) := by decide +kernel
theorem dX9_readDrop_55 : decode cX9_readDrop 55 = .ok ((.iconst 0), 1) := by decide +kernel
theorem dX9_readDrop_56 : decode cX9_readDrop 56 = .ok (.ireturn, 1) := by decide +kernel
theorem dX9_readDrop_57 : decode cX9_readDrop 57 = .ok ((.aload_n 0), 1) := by decide +kernel
theorem dX9_readDrop_58 : decode cX9_readDrop 58 = .ok ((.getfield 23), 3) := by decide +kernel
theorem dX9_readDrop_61 : decode cX9_readDrop 61 = .ok ((.bipush 12), 2) := by decide +kernel
theorem dX9_readDrop_63 : decode cX9_readDrop 63 = .ok ((.iload_n 1), 1) := by decide +kernel
theorem dX9_readDrop_64 : decode cX9_readDrop 64 = .ok ((.aload_n 0), 1) := by decide +kernel
theorem dX9_readDrop_65 : decode cX9_readDrop 65 = .ok ((.getfield 108), 3) := by decide +kernel
theorem dX9_readDrop_68 : decode cX9_readDrop 68 = .ok ((.aload_n 0), 1) := by decide +kernel
theorem dX9_readDrop_69 : decode cX9_readDrop 69 = .ok ((.getfield 15), 3) := by decide +kernel
theorem dX9_readDrop_72 : decode cX9_readDrop 72 = .ok ((.invokevirtual 121), 3) := by decide +kernel
theorem dX9_readDrop_75 : decode cX9_readDrop 75 = .ok ((.invokevirtual 63), 3) := by decide +kernel
theorem dX9_readDrop_78 : decode cX9_readDrop 78 = .ok (.pop, 1) := by decide +kernel
theorem dX9_readDrop_79 : decode cX9_readDrop 79 = .ok ((.iconst 1), 1) := by decide +kernel
theorem dX9_readDrop_80 : decode cX9_readDrop 80 = .ok (.ireturn, 1) := by decide +kernel
def p_X9_readDrop   (S : vSt)  (post : Bool → vSt → Prop) : Prop := p_X9_personNow  S  (fun r19 S18 => p_X9_takeNamed  S18 r19 (fun r21 S20 => ((r21 = true → ∀ y22 : Int32, y22 = (S20.1 56 5) → p_X9_deedNow  S20  (fun r24 S23 => p_X9_takeNamed  S23 r24 (fun r26 S25 => ((r26 = false → post false S25) ∧ (r26 = true → p_X6_takeWord  S25 13 (fun r28 S27 => ((r28 = false → post false S27) ∧ (r28 = true → p_X6_takeNumber  S27 0 9999 (fun r30 S29 => ((r30 = true → p_X6_number  S29  (fun r32 S31 => p_X8_add 32 S31 12 y22 (S29.1 56 5) r32 (fun r34 S33 => post true S33))) ∧ (r30 = false → post false S29))))))))))) ∧ (r21 = false → post false S20))))
set_option maxHeartbeats 4000000 in
set_option maxRecDepth 100000 in
theorem c_X9_readDrop (l : Launch) (G : vG)    {S : vSt}  (post : Bool → vSt → Prop) (h : p_X9_readDrop   S  post) : Met l yX9_readDrop (v_ws yX9_readDrop cX9_readDrop 2 (some .boolean)) (v_rm 3 104) (v_Pc G [.ref (G.1 56)] S) (v_Qz G post) 0 0 (v_A G) := by
  refine v_start (by decide +kernel) (Nat.le_of_ble_eq_true rfl) (fun X hl C D => ?_)
  subst hl
  have C : v_Cx X G cX9_readDrop RX9 2 (v_rm 3 104) := C
  show VJ X G S 0 [(0, .ref (G.1 56))] []
  refine V_aload_n C 0 dX9_readDrop_0 rfl rfl ?_
  refine V_aload_n C 0 dX9_readDrop_1 rfl rfl ?_
  refine V_callVi (As := []) (rest := [.ref (G.1 56)]) C (c_X9_personNow (v_l X) G  _ h) 56 9 (by decide) (by decide) (by decide) rfl KV_X9_personNow k_RX9_102 rfl rfl rfl (Nat.le_of_ble_eq_true rfl) ⟨Nat.le_of_ble_eq_true rfl, Nat.le_of_ble_eq_true rfl⟩ dX9_readDrop_2 (fun r19 S18 h => ?_)
  refine V_callVz (As := [.int r19]) (rest := []) C (c_X9_takeNamed (v_l X) G  _ _ h) 56 9 (by decide) (by decide) (by decide) rfl KV_X9_takeNamed k_RX9_105 rfl rfl rfl (Nat.le_of_ble_eq_true rfl) ⟨Nat.le_of_ble_eq_true rfl, Nat.le_of_ble_eq_true rfl⟩ dX9_readDrop_5 (fun r21 S20 h => ?_)
  refine V_ifb_ne (tgt := 13) C dX9_readDrop_8 (by decide) (fun c => ?_) (fun c => ?_)
  · have h := h.1 c
    refine V_aload_n C 0 dX9_readDrop_13 rfl rfl ?_
    refine V_gi C 56 (by decide) (by decide) F_9_5 k_RX9_108 dX9_readDrop_14 ?_
    refine V_topi (fun y22 ey22 => ?_)
    have h := h y22 ey22
    refine V_istore_n (lv' := [(0, .ref (G.1 56)), (1, .int y22)]) C [1, 0] dX9_readDrop_17 rfl (by decide) rfl ?_
    refine V_aload_n C 0 dX9_readDrop_18 rfl rfl ?_
    refine V_aload_n C 0 dX9_readDrop_19 rfl rfl ?_
    refine V_callVi (As := []) (rest := [.ref (G.1 56)]) C (c_X9_deedNow (v_l X) G  _ h) 56 9 (by decide) (by decide) (by decide) rfl KV_X9_deedNow k_RX9_111 rfl rfl rfl (Nat.le_of_ble_eq_true rfl) ⟨Nat.le_of_ble_eq_true rfl, Nat.le_of_ble_eq_true rfl⟩ dX9_readDrop_20 (fun r24 S23 h => ?_)
    refine V_callVz (As := [.int r24]) (rest := []) C (c_X9_takeNamed (v_l X) G  _ _ h) 56 9 (by decide) (by decide) (by decide) rfl KV_X9_takeNamed k_RX9_105 rfl rfl rfl (Nat.le_of_ble_eq_true rfl) ⟨Nat.le_of_ble_eq_true rfl, Nat.le_of_ble_eq_true rfl⟩ dX9_readDrop_23 (fun r26 S25 h => ?_)
    refine V_ifb_eq (tgt := 55) C dX9_readDrop_26 (by decide) (fun c => ?_) (fun c => ?_)
    · have h := h.1 c
      refine V_iconst (v := 0) C dX9_readDrop_55 (by decide) ?_
      exact V_zret0 C D dX9_readDrop_56 h
    · have h := h.2 c
      refine V_aload_n C 0 dX9_readDrop_29 rfl rfl ?_
      refine V_ga C 56 (by decide) (by decide) F_9_0 k_RX9_15 dX9_readDrop_30 ?_
      refine V_bipush (v := 13) C dX9_readDrop_33 (by decide) ?_
      refine V_callVz (As := [.int 13]) (rest := []) C (c_X6_takeWord (v_l X) G  _ _ h) 5 6 (by decide) (by decide) (by decide) rfl KV_X6_takeWord k_RX9_114 rfl rfl rfl (Nat.le_of_ble_eq_true rfl) ⟨Nat.le_of_ble_eq_true rfl, Nat.le_of_ble_eq_true rfl⟩ dX9_readDrop_35 (fun r28 S27 h => ?_)
      refine V_ifb_eq (tgt := 55) C dX9_readDrop_38 (by decide) (fun c => ?_) (fun c => ?_)
      · have h := h.1 c
        refine V_iconst (v := 0) C dX9_readDrop_55 (by decide) ?_
        exact V_zret0 C D dX9_readDrop_56 h
      · have h := h.2 c
        refine V_aload_n C 0 dX9_readDrop_41 rfl rfl ?_
        refine V_ga C 56 (by decide) (by decide) F_9_0 k_RX9_15 dX9_readDrop_42 ?_
        refine V_iconst (v := 0) C dX9_readDrop_45 (by decide) ?_
        refine V_sipush (v := 9999) C dX9_readDrop_46 (by decide) ?_
        refine V_callVz (As := [.int 0, .int 9999]) (rest := []) C (c_X6_takeNumber (v_l X) G  _ _ _ h) 5 6 (by decide) (by decide) (by decide) rfl KV_X6_takeNumber k_RX9_117 rfl rfl rfl (Nat.le_of_ble_eq_true rfl) ⟨Nat.le_of_ble_eq_true rfl, Nat.le_of_ble_eq_true rfl⟩ dX9_readDrop_49 (fun r30 S29 h => ?_)
        refine V_ifb_ne (tgt := 57) C dX9_readDrop_52 (by decide) (fun c => ?_) (fun c => ?_)
        · have h := h.1 c
          refine V_aload_n C 0 dX9_readDrop_57 rfl rfl ?_
          refine V_ga C 56 (by decide) (by decide) F_9_2 k_RX9_23 dX9_readDrop_58 ?_
          refine V_bipush (v := 12) C dX9_readDrop_61 (by decide) ?_
          refine V_iload_n C 1 dX9_readDrop_63 rfl rfl ?_
          refine V_aload_n C 0 dX9_readDrop_64 rfl rfl ?_
          refine V_gi C 56 (by decide) (by decide) F_9_5 k_RX9_108 dX9_readDrop_65 ?_
          refine V_aload_n C 0 dX9_readDrop_68 rfl rfl ?_
          refine V_ga C 56 (by decide) (by decide) F_9_0 k_RX9_15 dX9_readDrop_69 ?_
          refine V_callVi (As := []) (rest := [.int (S29.1 56 5), .int y22, .int 12, .ref (G.1 47)]) C (c_X6_number (v_l X) G  _ h) 5 6 (by decide) (by decide) (by decide) rfl KV_X6_number k_RX9_121 rfl rfl rfl (Nat.le_of_ble_eq_true rfl) ⟨Nat.le_of_ble_eq_true rfl, Nat.le_of_ble_eq_true rfl⟩ dX9_readDrop_72 (fun r32 S31 h => ?_)
          refine V_callVi (As := [.int 12, .int y22, .int (S29.1 56 5), .int r32]) (rest := []) C (c_X8_add (v_l X) G v_i32 _ _ _ _ _ h) 47 8 (by decide) (by decide) (by decide) rfl KV_X8_add k_RX9_63 rfl rfl rfl (Nat.le_of_ble_eq_true rfl) ⟨Nat.le_of_ble_eq_true rfl, Nat.le_of_ble_eq_true rfl⟩ dX9_readDrop_75 (fun r34 S33 h => ?_)
          refine V_pop C dX9_readDrop_78 rfl ?_
          refine V_iconst (v := 1) C dX9_readDrop_79 (by decide) ?_
          exact V_zret1 C D dX9_readDrop_80 h
        · have h := h.2 c
          refine V_iconst (v := 0) C dX9_readDrop_55 (by decide) ?_
          exact V_zret0 C D dX9_readDrop_56 h
  · have h := h.2 c
    refine V_iconst (v := 0) C dX9_readDrop_11 (by decide) ?_
    exact V_zret0 C D dX9_readDrop_12 h
/-! HalfAccuser$YearsReader.readEarn()Z -/
theorem dX9_readEarn_0 : decode cX9_readEarn 0 = .ok ((.aload_n 0), 1) := by decide +kernel
theorem dX9_readEarn_1 : decode cX9_readEarn 1 = .ok ((.aload_n 0), 1) := by decide +kernel
theorem dX9_readEarn_2 : decode cX9_readEarn 2 = .ok ((.invokevirtual 102), 3) := by decide +kernel
theorem dX9_readEarn_5 : decode cX9_readEarn 5 = .ok ((.invokevirtual 105), 3) := by decide +kernel
theorem dX9_readEarn_8 : decode cX9_readEarn 8 = .ok ((.ifCond .eq 17), 3) := by decide +kernel
theorem dX9_readEarn_11 : decode cX9_readEarn 11 = .ok ((.aload_n 0), 1) := by decide +kernel
theorem dX9_readEarn_12 : decode cX9_readEarn 12 = .ok ((.getfield 15), 3) := by decide +kernel
theorem dX9_readEarn_15 : decode cX9_readEarn 15 = .ok ((.iconst 1), 1) := by decide +kernel
theorem dX9_readEarn_16 : decode cX9_readEarn 16 = .ok ((.sipush 999), 3) := by decide +kernel
theorem dX9_readEarn_19 : decode cX9_readEarn 19 = .ok ((.invokevirtual 117), 3) := by decide +kernel
theorem dX9_readEarn_22 : decode cX9_readEarn 22 = .ok ((.ifCond .ne 5), 3) := by decide +kernel
theorem dX9_readEarn_25 : decode cX9_readEarn 25 = .ok ((.iconst 0), 1) := by decide +kernel
theorem dX9_readEarn_26 : decode cX9_readEarn 26 = .ok (.ireturn, 1) := by decide +kernel
theorem dX9_readEarn_27 : decode cX9_readEarn 27 = .ok ((.aload_n 0), 1) := by decide +kernel
theorem dX9_readEarn_28 : decode cX9_readEarn 28 = .ok ((.getfield 23), 3) := by decide +kernel
theorem dX9_readEarn_31 : decode cX9_readEarn 31 = .ok ((.bipush 14), 2) := by decide +kernel
theorem dX9_readEarn_33 : decode cX9_readEarn 33 = .ok ((.aload_n 0), 1) := by decide +kernel
theorem dX9_readEarn_34 : decode cX9_readEarn 34 = .ok ((.getfield 108), 3) := by decide +kernel
theorem dX9_readEarn_37 : decode cX9_readEarn 37 = .ok ((.iconst (-1)), 1) := by decide +kernel
theorem dX9_readEarn_38 : decode cX9_readEarn 38 = .ok ((.aload_n 0), 1) := by decide +kernel
theorem dX9_readEarn_39 : decode cX9_readEarn 39 = .ok ((.getfield 15), 3) := by decide +kernel
theorem dX9_readEarn_42 : decode cX9_readEarn 42 = .ok ((.invokevirtual 121), 3) := by decide +kernel
theorem dX9_readEarn_45 : decode cX9_readEarn 45 = .ok ((.invokevirtual 63), 3) := by decide +kernel
theorem dX9_readEarn_48 : decode cX9_readEarn 48 = .ok (.pop, 1) := by decide +kernel
theorem dX9_readEarn_49 : decode cX9_readEarn 49 = .ok ((.iconst 1), 1) := by decide +kernel
theorem dX9_readEarn_50 : decode cX9_readEarn 50 = .ok (.ireturn, 1) := by decide +kernel
def p_X9_readEarn   (S : vSt)  (post : Bool → vSt → Prop) : Prop := p_X9_personNow  S  (fun r12 S11 => p_X9_takeNamed  S11 r12 (fun r14 S13 => ((r14 = false → post false S13) ∧ (r14 = true → p_X6_takeNumber  S13 1 999 (fun r16 S15 => ((r16 = true → p_X6_number  S15  (fun r18 S17 => p_X8_add 32 S17 14 (S15.1 56 5) (-1) r18 (fun r20 S19 => post true S19))) ∧ (r16 = false → post false S15)))))))
set_option maxHeartbeats 4000000 in
set_option maxRecDepth 100000 in
theorem c_X9_readEarn (l : Launch) (G : vG)    {S : vSt}  (post : Bool → vSt → Prop) (h : p_X9_readEarn   S  post) : Met l yX9_readEarn (v_ws yX9_readEarn cX9_readEarn 1 (some .boolean)) (v_rm 3 104) (v_Pc G [.ref (G.1 56)] S) (v_Qz G post) 0 0 (v_A G) := by
  refine v_start (by decide +kernel) (Nat.le_of_ble_eq_true rfl) (fun X hl C D => ?_)
  subst hl
  have C : v_Cx X G cX9_readEarn RX9 1 (v_rm 3 104) := C
  show VJ X G S 0 [(0, .ref (G.1 56))] []
  refine V_aload_n C 0 dX9_readEarn_0 rfl rfl ?_
  refine V_aload_n C 0 dX9_readEarn_1 rfl rfl ?_
  refine V_callVi (As := []) (rest := [.ref (G.1 56)]) C (c_X9_personNow (v_l X) G  _ h) 56 9 (by decide) (by decide) (by decide) rfl KV_X9_personNow k_RX9_102 rfl rfl rfl (Nat.le_of_ble_eq_true rfl) ⟨Nat.le_of_ble_eq_true rfl, Nat.le_of_ble_eq_true rfl⟩ dX9_readEarn_2 (fun r12 S11 h => ?_)
  refine V_callVz (As := [.int r12]) (rest := []) C (c_X9_takeNamed (v_l X) G  _ _ h) 56 9 (by decide) (by decide) (by decide) rfl KV_X9_takeNamed k_RX9_105 rfl rfl rfl (Nat.le_of_ble_eq_true rfl) ⟨Nat.le_of_ble_eq_true rfl, Nat.le_of_ble_eq_true rfl⟩ dX9_readEarn_5 (fun r14 S13 h => ?_)
  refine V_ifb_eq (tgt := 25) C dX9_readEarn_8 (by decide) (fun c => ?_) (fun c => ?_)
  · have h := h.1 c
    refine V_iconst (v := 0) C dX9_readEarn_25 (by decide) ?_
    exact V_zret0 C D dX9_readEarn_26 h
  · have h := h.2 c
    refine V_aload_n C 0 dX9_readEarn_11 rfl rfl ?_
    refine V_ga C 56 (by decide) (by decide) F_9_0 k_RX9_15 dX9_readEarn_12 ?_
    refine V_iconst (v := 1) C dX9_readEarn_15 (by decide) ?_
    refine V_sipush (v := 999) C dX9_readEarn_16 (by decide) ?_
    refine V_callVz (As := [.int 1, .int 999]) (rest := []) C (c_X6_takeNumber (v_l X) G  _ _ _ h) 5 6 (by decide) (by decide) (by decide) rfl KV_X6_takeNumber k_RX9_117 rfl rfl rfl (Nat.le_of_ble_eq_true rfl) ⟨Nat.le_of_ble_eq_true rfl, Nat.le_of_ble_eq_true rfl⟩ dX9_readEarn_19 (fun r16 S15 h => ?_)
    refine V_ifb_ne (tgt := 27) C dX9_readEarn_22 (by decide) (fun c => ?_) (fun c => ?_)
    · have h := h.1 c
      refine V_aload_n C 0 dX9_readEarn_27 rfl rfl ?_
      refine V_ga C 56 (by decide) (by decide) F_9_2 k_RX9_23 dX9_readEarn_28 ?_
      refine V_bipush (v := 14) C dX9_readEarn_31 (by decide) ?_
      refine V_aload_n C 0 dX9_readEarn_33 rfl rfl ?_
      refine V_gi C 56 (by decide) (by decide) F_9_5 k_RX9_108 dX9_readEarn_34 ?_
      refine V_iconst (v := (-1)) C dX9_readEarn_37 (by decide) ?_
      refine V_aload_n C 0 dX9_readEarn_38 rfl rfl ?_
      refine V_ga C 56 (by decide) (by decide) F_9_0 k_RX9_15 dX9_readEarn_39 ?_
      refine V_callVi (As := []) (rest := [.int (-1), .int (S15.1 56 5), .int 14, .ref (G.1 47)]) C (c_X6_number (v_l X) G  _ h) 5 6 (by decide) (by decide) (by decide) rfl KV_X6_number k_RX9_121 rfl rfl rfl (Nat.le_of_ble_eq_true rfl) ⟨Nat.le_of_ble_eq_true rfl, Nat.le_of_ble_eq_true rfl⟩ dX9_readEarn_42 (fun r18 S17 h => ?_)
      refine V_callVi (As := [.int 14, .int (S15.1 56 5), .int (-1), .int r18]) (rest := []) C (c_X8_add (v_l X) G v_i32 _ _ _ _ _ h) 47 8 (by decide) (by decide) (by decide) rfl KV_X8_add k_RX9_63 rfl rfl rfl (Nat.le_of_ble_eq_true rfl) ⟨Nat.le_of_ble_eq_true rfl, Nat.le_of_ble_eq_true rfl⟩ dX9_readEarn_45 (fun r20 S19 h => ?_)
      refine V_pop C dX9_readEarn_48 rfl ?_
      refine V_iconst (v := 1) C dX9_readEarn_49 (by decide) ?_
      exact V_zret1 C D dX9_readEarn_50 h
    · have h := h.2 c
      refine V_iconst (v := 0) C dX9_readEarn_25 (by decide) ?_
      exact V_zret0 C D dX9_readEarn_26 h
/-! HalfAccuser$YearsReader.open(I)V -/
theorem dX9_open_0 : decode cX9_open 0 = .ok ((.aload_n 0), 1) := by decide +kernel
theorem dX9_open_1 : decode cX9_open 1 = .ok ((.getfield 11), 3) := by decide +kernel
theorem dX9_open_4 : decode cX9_open 4 = .ok ((.aload_n 0), 1) := by decide +kernel
theorem dX9_open_5 : decode cX9_open 5 = .ok ((.getfield 36), 3) := by decide +kernel
theorem dX9_open_8 : decode cX9_open 8 = .ok ((.iload_n 1), 1) := by decide +kernel
theorem dX9_open_9 : decode cX9_open 9 = .ok ((.invokestatic 134), 3) := by decide +kernel
theorem dX9_open_12 : decode cX9_open 12 = .ok ((.aload_n 0), 1) := by decide +kernel
theorem dX9_open_13 : decode cX9_open 13 = .ok (.dup, 1) := by decide +kernel
theorem dX9_open_14 : decode cX9_open 14 = .ok ((.getfield 36), 3) := by decide +kernel
theorem dX9_open_17 : decode cX9_open 17 = .ok ((.iconst 1), 1) := by decide +kernel
theorem dX9_open_18 : decode cX9_open 18 = .ok (.iadd, 1) := by decide +kernel
theorem dX9_open_19 : decode cX9_open 19 = .ok ((.putfield 36), 3) := by decide +kernel
theorem dX9_open_22 : decode cX9_open 22 = .ok (.return_, 1) := by decide +kernel
def p_X9_open   (S : vSt) (a1 : Int32) (post : vSt → Prop) : Prop := p_X10_put 57 3 S (S.1 56 4) a1 (fun S3 => ∀ S4, S4 = v_si S3 56 4 ((S3.1 56 4) + 1) → post S4)
set_option maxHeartbeats 4000000 in
set_option maxRecDepth 100000 in
theorem c_X9_open (l : Launch) (G : vG)    {S : vSt} (a1 : Int32) (post : vSt → Prop) (h : p_X9_open   S a1 post) : Met l yX9_open (v_ws yX9_open cX9_open 2 none) (v_rm 1 62) (v_Pc G [.ref (G.1 56), .int a1] S) (v_Qv G post) 0 0 (v_A G) := by
  refine v_start (by decide +kernel) (Nat.le_of_ble_eq_true rfl) (fun X hl C D => ?_)
  subst hl
  have C : v_Cx X G cX9_open RX9 2 (v_rm 1 62) := C
  show VJ X G S 0 [(0, .ref (G.1 56)), (1, .int a1)] []
  refine V_aload_n C 0 dX9_open_0 rfl rfl ?_
  refine V_ga C 56 (by decide) (by decide) F_9_3 k_RX9_11 dX9_open_1 ?_
  refine V_aload_n C 0 dX9_open_4 rfl rfl ?_
  refine V_gi C 56 (by decide) (by decide) F_9_4 k_RX9_36 dX9_open_5 ?_
  refine V_iload_n C 1 dX9_open_8 rfl rfl ?_
  refine V_callSNv (As := [.ref (G.1 57), .int (S.1 56 4), .int a1]) (rest := []) C (c_X10_put (v_l X) G (by decide) (by decide) _ _ _ h) KV_X10_put (List.mem_of_getElem? (i := 34) rfl) rfl rfl rfl (Nat.le_of_ble_eq_true rfl) ⟨Nat.le_of_ble_eq_true rfl, Nat.le_of_ble_eq_true rfl⟩ dX9_open_9 (fun S3 h => ?_)
  refine V_aload_n C 0 dX9_open_12 rfl rfl ?_
  refine V_dup C dX9_open_13 rfl ?_
  refine V_gi C 56 (by decide) (by decide) F_9_4 k_RX9_36 dX9_open_14 ?_
  refine V_iconst (v := 1) C dX9_open_17 (by decide) ?_
  refine V_iadd C dX9_open_18 ?_
  refine V_pi C 56 (by decide) (by decide) P_9_4 k_RX9_36 dX9_open_19 ?_
  refine V_topS (fun S4 eS4 => ?_)
  have h := h S4 eS4
  exact V_vret C D dX9_open_22 h
/-! HalfAccuser$YearsReader.readLoop()Z -/
theorem dX9_readLoop_0 : decode cX9_readLoop 0 = .ok ((.aload_n 0), 1) := by decide +kernel
theorem dX9_readLoop_1 : decode cX9_readLoop 1 = .ok ((.getfield 15), 3) := by decide +kernel
theorem dX9_readLoop_4 : decode cX9_readLoop 4 = .ok ((.iconst 1), 1) := by decide +kernel
theorem dX9_readLoop_5 : decode cX9_readLoop 5 = .ok ((.bipush 99), 2) := by decide +kernel
theorem dX9_readLoop_7 : decode cX9_readLoop 7 = .ok ((.invokevirtual 117), 3) := by decide +kernel
theorem dX9_readLoop_10 : decode cX9_readLoop 10 = .ok ((.ifCond .ne 5), 3) := by decide +kernel
theorem dX9_readLoop_13 : decode cX9_readLoop 13 = .ok ((.iconst 0), 1) := by decide +kernel
theorem dX9_readLoop_14 : decode cX9_readLoop 14 = .ok (.ireturn, 1) := by decide +kernel
theorem dX9_readLoop_15 : decode cX9_readLoop 15 = .ok ((.aload_n 0), 1) := by decide +kernel
theorem dX9_readLoop_16 : decode cX9_readLoop 16 = .ok ((.aload_n 0), 1) := by decide +kernel
theorem dX9_readLoop_17 : decode cX9_readLoop 17 = .ok ((.getfield 23), 3) := by decide +kernel
theorem dX9_readLoop_20 : decode cX9_readLoop 20 = .ok ((.bipush 19), 2) := by decide +kernel
theorem dX9_readLoop_22 : decode cX9_readLoop 22 = .ok ((.iconst (-1)), 1) := by decide +kernel
theorem dX9_readLoop_23 : decode cX9_readLoop 23 = .ok ((.iconst (-1)), 1) := by decide +kernel
theorem dX9_readLoop_24 : decode cX9_readLoop 24 = .ok ((.aload_n 0), 1) := by decide +kernel
theorem dX9_readLoop_25 : decode cX9_readLoop 25 = .ok ((.getfield 15), 3) := by decide +kernel
theorem dX9_readLoop_28 : decode cX9_readLoop 28 = .ok ((.invokevirtual 121), 3) := by decide +kernel
theorem dX9_readLoop_31 : decode cX9_readLoop 31 = .ok ((.invokevirtual 63), 3) := by decide +kernel
theorem dX9_readLoop_34 : decode cX9_readLoop 34 = .ok ((.invokevirtual 124), 3) := by decide +kernel
theorem dX9_readLoop_37 : decode cX9_readLoop 37 = .ok ((.iconst 1), 1) := by decide +kernel
theorem dX9_readLoop_38 : decode cX9_readLoop 38 = .ok (.ireturn, 1) := by decide +kernel
def p_X9_readLoop   (S : vSt)  (post : Bool → vSt → Prop) : Prop := p_X6_takeNumber  S 1 99 (fun r9 S8 => ((r9 = true → p_X6_number  S8  (fun r11 S10 => p_X8_add 32 S10 19 (-1) (-1) r11 (fun r13 S12 => p_X9_open  S12 r13 (fun S14 => post true S14)))) ∧ (r9 = false → post false S8)))
set_option maxHeartbeats 4000000 in
set_option maxRecDepth 100000 in
theorem c_X9_readLoop (l : Launch) (G : vG)    {S : vSt}  (post : Bool → vSt → Prop) (h : p_X9_readLoop   S  post) : Met l yX9_readLoop (v_ws yX9_readLoop cX9_readLoop 1 (some .boolean)) (v_rm 3 103) (v_Pc G [.ref (G.1 56)] S) (v_Qz G post) 0 0 (v_A G) := by
  refine v_start (by decide +kernel) (Nat.le_of_ble_eq_true rfl) (fun X hl C D => ?_)
  subst hl
  have C : v_Cx X G cX9_readLoop RX9 1 (v_rm 3 103) := C
  show VJ X G S 0 [(0, .ref (G.1 56))] []
  refine V_aload_n C 0 dX9_readLoop_0 rfl rfl ?_
  refine V_ga C 56 (by decide) (by decide) F_9_0 k_RX9_15 dX9_readLoop_1 ?_
  refine V_iconst (v := 1) C dX9_readLoop_4 (by decide) ?_
  refine V_bipush (v := 99) C dX9_readLoop_5 (by decide) ?_
  refine V_callVz (As := [.int 1, .int 99]) (rest := []) C (c_X6_takeNumber (v_l X) G  _ _ _ h) 5 6 (by decide) (by decide) (by decide) rfl KV_X6_takeNumber k_RX9_117 rfl rfl rfl (Nat.le_of_ble_eq_true rfl) ⟨Nat.le_of_ble_eq_true rfl, Nat.le_of_ble_eq_true rfl⟩ dX9_readLoop_7 (fun r9 S8 h => ?_)
  refine V_ifb_ne (tgt := 15) C dX9_readLoop_10 (by decide) (fun c => ?_) (fun c => ?_)
  · have h := h.1 c
    refine V_aload_n C 0 dX9_readLoop_15 rfl rfl ?_
    refine V_aload_n C 0 dX9_readLoop_16 rfl rfl ?_
    refine V_ga C 56 (by decide) (by decide) F_9_2 k_RX9_23 dX9_readLoop_17 ?_
    refine V_bipush (v := 19) C dX9_readLoop_20 (by decide) ?_
    refine V_iconst (v := (-1)) C dX9_readLoop_22 (by decide) ?_
    refine V_iconst (v := (-1)) C dX9_readLoop_23 (by decide) ?_
    refine V_aload_n C 0 dX9_readLoop_24 rfl rfl ?_
    refine V_ga C 56 (by decide) (by decide) F_9_0 k_RX9_15 dX9_readLoop_25 ?_
    refine V_callVi (As := []) (rest := [.int (-1), .int (-1), .int 19, .ref (G.1 47), .ref (G.1 56)]) C (c_X6_number (v_l X) G  _ h) 5 6 (by decide) (by decide) (by decide) rfl KV_X6_number k_RX9_121 rfl rfl rfl (Nat.le_of_ble_eq_true rfl) ⟨Nat.le_of_ble_eq_true rfl, Nat.le_of_ble_eq_true rfl⟩ dX9_readLoop_28 (fun r11 S10 h => ?_)
    refine V_callVi (As := [.int 19, .int (-1), .int (-1), .int r11]) (rest := [.ref (G.1 56)]) C (c_X8_add (v_l X) G v_i32 _ _ _ _ _ h) 47 8 (by decide) (by decide) (by decide) rfl KV_X8_add k_RX9_63 rfl rfl rfl (Nat.le_of_ble_eq_true rfl) ⟨Nat.le_of_ble_eq_true rfl, Nat.le_of_ble_eq_true rfl⟩ dX9_readLoop_31 (fun r13 S12 h => ?_)
    refine V_callVv (As := [.int r13]) (rest := []) C (c_X9_open (v_l X) G  _ _ h) 56 9 (by decide) (by decide) (by decide) rfl KV_X9_open k_RX9_124 rfl rfl rfl (Nat.le_of_ble_eq_true rfl) ⟨Nat.le_of_ble_eq_true rfl, Nat.le_of_ble_eq_true rfl⟩ dX9_readLoop_34 (fun S14 h => ?_)
    refine V_iconst (v := 1) C dX9_readLoop_37 (by decide) ?_
    exact V_zret1 C D dX9_readLoop_38 h
  · have h := h.2 c
    refine V_iconst (v := 0) C dX9_readLoop_13 (by decide) ?_
    exact V_zret0 C D dX9_readLoop_14 h
/-! HalfAccuser$YearsReader.readTest()Z -/
theorem dX9_readTest_0 : decode cX9_readTest 0 = .ok ((.aload_n 0), 1) := by decide +kernel
theorem dX9_readTest_1 : decode cX9_readTest 1 = .ok ((.getfield 15), 3) := by decide +kernel
theorem dX9_readTest_4 : decode cX9_readTest 4 = .ok ((.invokevirtual 77), 3) := by decide +kernel
theorem dX9_readTest_7 : decode cX9_readTest 7 = .ok ((.istore_n 1), 1) := by decide +kernel
theorem dX9_readTest_8 : decode cX9_readTest 8 = .ok ((.iload_n 1), 1) := by decide +kernel
theorem dX9_readTest_9 : decode cX9_readTest 9 = .ok ((.bipush 17), 2) := by decide +kernel
theorem dX9_readTest_11 : decode cX9_readTest 11 = .ok ((.if_icmp .eq 23), 3) := by decide +kernel
theorem dX9_readTest_14 : decode cX9_readTest 14 = .ok ((.iload_n 1), 1) := by decide +kernel
theorem dX9_readTest_15 : decode cX9_readTest 15 = .ok ((.bipush 18), 2) := by decide +kernel
theorem dX9_readTest_17 : decode cX9_readTest 17 = .ok ((.if_icmp .eq 17), 3) := by decide +kernel
theorem dX9_readTest_20 : decode cX9_readTest 20 = .ok ((.iload_n 1), 1) := by decide +kernel
theorem dX9_readTest_21 : decode cX9_readTest 21 = .ok ((.iconst 5), 1) := by decide +kernel
theorem dX9_readTest_22 : decode cX9_readTest 22 = .ok ((.if_icmp .eq 12), 3) := by decide +kernel
theorem dX9_readTest_25 : decode cX9_readTest 25 = .ok ((.aload_n 0), 1) := by decide +kernel
theorem dX9_readTest_26 : decode cX9_readTest 26 = .ok ((.getfield 15), 3) := by decide +kernel
theorem dX9_readTest_29 : decode cX9_readTest 29 = .ok ((.iconst 2), 1) := by decide +kernel
theorem dX9_readTest_30 : decode cX9_readTest 30 = .ok ((.invokevirtual 56), 3) := by decide +kernel
theorem dX9_readTest_33 : decode cX9_readTest 33 = .ok (.ireturn, 1) := by decide +kernel
theorem dX9_readTest_34 : decode cX9_readTest 34 = .ok ((.aload_n 0), 1) := by decide +kernel
theorem dX9_readTest_35 : decode cX9_readTest 35 = .ok ((.getfield 15), 3) := by decide +kernel
theorem dX9_readTest_38 : decode cX9_readTest 38 = .ok ((.invokevirtual 71), 3) := by decide +kernel
theorem dX9_readTest_41 : decode cX9_readTest 41 = .ok ((.aload_n 0), 1) := by decide +kernel
theorem dX9_readTest_42 : decode cX9_readTest 42 = .ok ((.iload_n 1), 1) := by decide +kernel
theorem dX9_readTest_43 : decode cX9_readTest 43 = .ok ((.bipush 17), 2) := by decide +kernel
theorem dX9_readTest_45 : decode cX9_readTest 45 = .ok ((.if_icmp .ne 10), 3) := by decide +kernel
theorem dX9_readTest_48 : decode cX9_readTest 48 = .ok ((.aload_n 0), 1) := by decide +kernel
theorem dX9_readTest_49 : decode cX9_readTest 49 = .ok ((.invokevirtual 111), 3) := by decide +kernel
theorem dX9_readTest_52 : decode cX9_readTest 52 = .ok ((.goto 7), 3) := by decide +kernel
theorem dX9_readTest_55 : decode cX9_readTest 55 = .ok ((.aload_n 0), 1) := by decide +kernel
theorem dX9_readTest_56 : decode cX9_readTest 56 = .ok ((.invokevirtual 102), 3) := by decide +kernel
theorem dX9_readTest_59 : decode cX9_readTest 59 = .ok ((.invokevirtual 105), 3) := by decide +kernel
theorem dX9_readTest_62 : decode cX9_readTest 62 = .ok ((.ifCond .ne 5), 3) := by decide +kernel
theorem dX9_readTest_65 : decode cX9_readTest 65 = .ok ((.iconst 0), 1) := by decide +kernel
theorem dX9_readTest_66 : decode cX9_readTest 66 = .ok (.ireturn, 1) := by decide +kernel
theorem dX9_readTest_67 : decode cX9_readTest 67 = .ok ((.iload_n 1), 1) := by decide +kernel
theorem dX9_readTest_68 : decode cX9_readTest 68 = .ok ((.iconst 5), 1) := by decide +kernel
theorem dX9_readTest_69 : decode cX9_readTest 69 = .ok ((.if_icmp .eq 24), 3) := by decide +kernel
theorem dX9_readTest_72 : decode cX9_readTest 72 = .ok ((.aload_n 0), 1) := by decide +kernel
theorem dX9_readTest_73 : decode cX9_readTest 73 = .ok ((.aload_n 0), 1) := by decide +kernel
theorem dX9_readTest_74 : decode cX9_readTest 74 = .ok ((.getfield 23), 3) := by decide +kernel
theorem dX9_readTest_77 : decode cX9_readTest 77 = .ok ((.bipush 16), 2) := by decide +kernel
theorem dX9_readTest_79 : decode cX9_readTest 79 = .ok ((.aload_n 0), 1) := by decide +kernel
theorem dX9_readTest_80 : decode cX9_readTest 80 = .ok ((.getfield 108), 3) := by decide +kernel
theorem dX9_readTest_83 : decode cX9_readTest 83 = .ok ((.iload_n 1), 1) := by decide +kernel
theorem dX9_readTest_84 : decode cX9_readTest 84 = .ok ((.iconst 0), 1) := by decide +kernel
theorem dX9_readTest_85 : decode cX9_readTest 85 = .ok ((.invokevirtual 63), 3) := by decide +kernel
theorem dX9_readTest_88 : decode cX9_readTest 88 = .ok ((.invokevirtual 124), 3) := by decide +kernel
theorem dX9_readTest_91 : decode cX9_readTest 91 = .ok ((.iconst 1), 1) := by decide +kernel
theorem dX9_readTest_92 : decode cX9_readTest 92 = .ok (.ireturn, 1) := by decide +kernel
theorem dX9_readTest_93 : decode cX9_readTest 93 = .ok ((.aload_n 0), 1) := by decide +kernel
theorem dX9_readTest_94 : decode cX9_readTest 94 = .ok ((.getfield 15), 3) := by decide +kernel
theorem dX9_readTest_97 : decode cX9_readTest 97 = .ok ((.getfield 42), 3) := by decide +kernel
theorem dX9_readTest_100 : decode cX9_readTest 100 = .ok ((.bipush 6), 2) := by decide +kernel
theorem dX9_readTest_102 : decode cX9_readTest 102 = .ok ((.if_icmp .ne 17), 3) := by decide +kernel
theorem dX9_readTest_105 : decode cX9_readTest 105 = .ok ((.aload_n 0), 1) := by decide +kernel
theorem dX9_readTest_106 : decode cX9_readTest 106 = .ok ((.getfield 15), 3) := by decide +kernel
theorem dX9_readTest_109 : decode cX9_readTest 109 = .ok ((.getfield 128), 3) := by decide +kernel
theorem dX9_readTest_112 : decode cX9_readTest 112 = .ok ((.ldc2_w 132), 3) := by decide +kernel
theorem dX9_readTest_115 : decode cX9_readTest 115 = .ok (.lcmp, 1) := by decide +kernel
theorem dX9_readTest_116 : decode cX9_readTest 116 = .ok ((.ifCond .ne 12), 3) := by decide +kernel
theorem dX9_readTest_119 : decode cX9_readTest 119 = .ok ((.aload_n 0), 1) := by decide +kernel
theorem dX9_readTest_120 : decode cX9_readTest 120 = .ok ((.getfield 15), 3) := by decide +kernel
theorem dX9_readTest_123 : decode cX9_readTest 123 = .ok ((.iconst 2), 1) := by decide +kernel
theorem dX9_readTest_124 : decode cX9_readTest 124 = .ok ((.invokevirtual 56), 3) := by decide +kernel
theorem dX9_readTest_127 : decode cX9_readTest 127 = .ok (.ireturn, 1) := by decide +kernel
theorem dX9_readTest_128 : decode cX9_readTest 128 = .ok ((.aload_n 0), 1) := by decide +kernel
theorem dX9_readTest_129 : decode cX9_readTest 129 = .ok ((.getfield 15), 3) := by decide +kernel
theorem dX9_readTest_132 : decode cX9_readTest 132 = .ok ((.invokevirtual 71), 3) := by decide +kernel
theorem dX9_readTest_135 : decode cX9_readTest 135 = .ok ((.aload_n 0), 1) := by decide +kernel
theorem dX9_readTest_136 : decode cX9_readTest 136 = .ok ((.getfield 15), 3) := by decide +kernel
theorem dX9_readTest_139 : decode cX9_readTest 139 = .ok ((.invokevirtual 121), 3) := by decide +kernel
theorem dX9_readTest_142 : decode cX9_readTest 142 = .ok ((.istore_n 2), 1) := by decide +kernel
theorem dX9_readTest_143 : decode cX9_readTest 143 = .ok ((.aload_n 0), 1) := by decide +kernel
theorem dX9_readTest_144 : decode cX9_readTest 144 = .ok ((.getfield 15), 3) := by decide +kernel
theorem dX9_readTest_147 : decode cX9_readTest 147 = .ok ((.iconst 0), 1) := by decide +kernel
theorem dX9_readTest_148 : decode cX9_readTest 148 = .ok ((.sipush 9999), 3) := by decide +kernel
theorem dX9_readTest_151 : decode cX9_readTest 151 = .ok ((.invokevirtual 117), 3) := by decide +kernel
theorem dX9_readTest_154 : decode cX9_readTest 154 = .ok ((.ifCond .ne 5), 3) := by decide +kernel
theorem dX9_readTest_157 : decode cX9_readTest 157 = .ok ((.iconst 0), 1) := by decide +kernel
theorem dX9_readTest_158 : decode cX9_readTest 158 = .ok (.ireturn, 1) := by decide +kernel
theorem dX9_readTest_159 : decode cX9_readTest 159 = .ok ((.aload_n 0), 1) := by decide +kernel
theorem dX9_readTest_160 : decode cX9_readTest 160 = .ok ((.aload_n 0), 1) := by decide +kernel
theorem dX9_readTest_161 : decode cX9_readTest 161 = .ok ((.getfield 23), 3) := by decide +kernel
theorem dX9_readTest_164 : decode cX9_readTest 164 = .ok ((.bipush 16), 2) := by decide +kernel
theorem dX9_readTest_166 : decode cX9_readTest 166 = .ok ((.aload_n 0), 1) := by decide +kernel
theorem dX9_readTest_167 : decode cX9_readTest 167 = .ok ((.getfield 108), 3) := by decide +kernel
theorem dX9_readTest_170 : decode cX9_readTest 170 = .ok ((.iload_n 2), 1) := by decide +kernel
theorem dX9_readTest_171 : decode cX9_readTest 171 = .ok ((.aload_n 0), 1) := by decide +kernel
theorem dX9_readTest_172 : decode cX9_readTest 172 = .ok ((.getfield 15), 3) := by decide +kernel
theorem dX9_readTest_175 : decode cX9_readTest 175 = .ok ((.invokevirtual 121), 3) := by decide +kernel
theorem dX9_readTest_178 : decode cX9_readTest 178 = .ok ((.invokevirtual 63), 3) := by decide +kernel
theorem dX9_readTest_181 : decode cX9_readTest 181 = .ok ((.invokevirtual 124), 3) := by decide +kernel
theorem dX9_readTest_184 : decode cX9_readTest 184 = .ok ((.iconst 1), 1) := by decide +kernel
theorem dX9_readTest_185 : decode cX9_readTest 185 = .ok (.ireturn, 1) := by decide +kernel
def p_X9_readTest_119     (post : Bool → vSt → Prop) (S : vSt)  : Prop := p_X6_blame  S 2 (fun r35 S34 => post r35 S34)
def p_X9_readTest_59     (post : Bool → vSt → Prop) (S : vSt) (x1 : Int32) (s0 : Int32) : Prop := p_X9_takeNamed  S s0 (fun r33 S32 => ((r33 = true → ((x1 = 5 → ((¬ (S32.1 5 7) = 6 → p_X9_readTest_119  post S32 ) ∧ ((S32.1 5 7) = 6 → ((¬ (S32.2 5 9) = 59 → p_X6_pass  S32  (fun S34 => p_X6_number  S34  (fun r36 S35 => p_X6_takeNumber  S35 0 9999 (fun r38 S37 => ((r38 = true → p_X6_number  S37  (fun r40 S39 => p_X8_add 32 S39 16 (S37.1 56 5) r36 r40 (fun r42 S41 => p_X9_open  S41 r42 (fun S43 => post true S43)))) ∧ (r38 = false → post false S37)))))) ∧ ((S32.2 5 9) = 59 → p_X9_readTest_119  post S32 ))))) ∧ (¬ x1 = 5 → p_X8_add 32 S32 16 (S32.1 56 5) x1 0 (fun r45 S44 => p_X9_open  S44 r45 (fun S46 => post true S46))))) ∧ (r33 = false → post false S32)))
def p_X9_readTest_34     (post : Bool → vSt → Prop) (S : vSt) (x1 : Int32) : Prop := p_X6_pass  S  (fun S29 => ((¬ x1 = 17 → p_X9_personNow  S29  (fun r31 S30 => p_X9_readTest_59  post S30 x1 r31)) ∧ (x1 = 17 → p_X9_deedNow  S29  (fun r33 S32 => p_X9_readTest_59  post S32 x1 r33))))
def p_X9_readTest   (S : vSt)  (post : Bool → vSt → Prop) : Prop := p_X6_wordNow  S  (fun r28 S27 => ((r28 = 17 → p_X9_readTest_34  post S27 r28) ∧ (¬ r28 = 17 → ((r28 = 18 → p_X9_readTest_34  post S27 r28) ∧ (¬ r28 = 18 → ((r28 = 5 → p_X9_readTest_34  post S27 r28) ∧ (¬ r28 = 5 → p_X6_blame  S27 2 (fun r30 S29 => post r30 S29))))))))
set_option maxHeartbeats 4000000 in
set_option maxRecDepth 100000 in
theorem q_X9_readTest_119 {X : vX} {G : vG}  {post : Bool → vSt → Prop} (C : v_Cx X G cX9_readTest RX9 3 (v_rm 3 104)) (D : v_Rx X G (v_Qz G post) (some .boolean))     : ∀ (S : vSt), p_X9_readTest_119  post S  → VJ X G S 119 [(0, .ref (G.1 56))] [] := by
  intro S  h
  refine V_aload_n C 0 dX9_readTest_119 rfl rfl ?_
  refine V_ga C 56 (by decide) (by decide) F_9_0 k_RX9_15 dX9_readTest_120 ?_
  refine V_iconst (v := 2) C dX9_readTest_123 (by decide) ?_
  refine V_callVz (As := [.int 2]) (rest := []) C (c_X6_blame (v_l X) G  _ _ h) 5 6 (by decide) (by decide) (by decide) rfl KV_X6_blame k_RX9_56 rfl rfl rfl (Nat.le_of_ble_eq_true rfl) ⟨Nat.le_of_ble_eq_true rfl, Nat.le_of_ble_eq_true rfl⟩ dX9_readTest_124 (fun r35 S34 h => ?_)
  exact V_zret C D dX9_readTest_127 h
set_option maxHeartbeats 4000000 in
set_option maxRecDepth 100000 in
theorem q_X9_readTest_59 {X : vX} {G : vG}  {post : Bool → vSt → Prop} (C : v_Cx X G cX9_readTest RX9 3 (v_rm 3 104)) (D : v_Rx X G (v_Qz G post) (some .boolean))     : ∀ (S : vSt) (x1 : Int32) (s0 : Int32), p_X9_readTest_59  post S x1 s0 → VJ X G S 59 [(0, .ref (G.1 56)), (1, .int x1)] [.int s0, .ref (G.1 56)] := by
  intro S x1 s0 h
  refine V_callVz (As := [.int s0]) (rest := []) C (c_X9_takeNamed (v_l X) G  _ _ h) 56 9 (by decide) (by decide) (by decide) rfl KV_X9_takeNamed k_RX9_105 rfl rfl rfl (Nat.le_of_ble_eq_true rfl) ⟨Nat.le_of_ble_eq_true rfl, Nat.le_of_ble_eq_true rfl⟩ dX9_readTest_59 (fun r33 S32 h => ?_)
  refine V_ifb_ne (tgt := 67) C dX9_readTest_62 (by decide) (fun c => ?_) (fun c => ?_)
  · have h := h.1 c
    refine V_iload_n C 1 dX9_readTest_67 rfl rfl ?_
    refine V_iconst (v := 5) C dX9_readTest_68 (by decide) ?_
    refine V_icmp_eq (tgt := 93) C dX9_readTest_69 (by decide) (fun c => ?_) (fun c => ?_)
    · have h := h.1 c
      refine V_aload_n C 0 dX9_readTest_93 rfl rfl ?_
      refine V_ga C 56 (by decide) (by decide) F_9_0 k_RX9_15 dX9_readTest_94 ?_
      refine V_gi C 5 (by decide) (by decide) F_6_7 k_RX9_42 dX9_readTest_97 ?_
      refine V_bipush (v := 6) C dX9_readTest_100 (by decide) ?_
      refine V_icmp_ne (tgt := 119) C dX9_readTest_102 (by decide) (fun c => ?_) (fun c => ?_)
      · have h := h.1 c
        refine V_loc (lv' := [(0, .ref (G.1 56))]) [0] rfl ?_
        exact q_X9_readTest_119 C D  _ h
      · have h := h.2 c
        refine V_aload_n C 0 dX9_readTest_105 rfl rfl ?_
        refine V_ga C 56 (by decide) (by decide) F_9_0 k_RX9_15 dX9_readTest_106 ?_
        refine V_gl C 5 (by decide) (by decide) F_6_9 k_RX9_128 dX9_readTest_109 ?_
        refine V_ldc2 (v := 59) C k_RX9_132 dX9_readTest_112 ?_
        refine V_lcmp_ne (tgt := 128) C dX9_readTest_115 dX9_readTest_116 (by decide) (fun c => ?_) (fun c => ?_)
        · have h := h.1 c
          refine V_aload_n C 0 dX9_readTest_128 rfl rfl ?_
          refine V_ga C 56 (by decide) (by decide) F_9_0 k_RX9_15 dX9_readTest_129 ?_
          refine V_callVv (As := []) (rest := []) C (c_X6_pass (v_l X) G  _ h) 5 6 (by decide) (by decide) (by decide) rfl KV_X6_pass k_RX9_71 rfl rfl rfl (Nat.le_of_ble_eq_true rfl) ⟨Nat.le_of_ble_eq_true rfl, Nat.le_of_ble_eq_true rfl⟩ dX9_readTest_132 (fun S34 h => ?_)
          refine V_aload_n C 0 dX9_readTest_135 rfl rfl ?_
          refine V_ga C 56 (by decide) (by decide) F_9_0 k_RX9_15 dX9_readTest_136 ?_
          refine V_callVi (As := []) (rest := []) C (c_X6_number (v_l X) G  _ h) 5 6 (by decide) (by decide) (by decide) rfl KV_X6_number k_RX9_121 rfl rfl rfl (Nat.le_of_ble_eq_true rfl) ⟨Nat.le_of_ble_eq_true rfl, Nat.le_of_ble_eq_true rfl⟩ dX9_readTest_139 (fun r36 S35 h => ?_)
          refine V_istore_n (lv' := [(0, .ref (G.1 56)), (1, .int x1), (2, .int r36)]) C [1, 2, 0] dX9_readTest_142 rfl (by decide) rfl ?_
          refine V_aload_n C 0 dX9_readTest_143 rfl rfl ?_
          refine V_ga C 56 (by decide) (by decide) F_9_0 k_RX9_15 dX9_readTest_144 ?_
          refine V_iconst (v := 0) C dX9_readTest_147 (by decide) ?_
          refine V_sipush (v := 9999) C dX9_readTest_148 (by decide) ?_
          refine V_callVz (As := [.int 0, .int 9999]) (rest := []) C (c_X6_takeNumber (v_l X) G  _ _ _ h) 5 6 (by decide) (by decide) (by decide) rfl KV_X6_takeNumber k_RX9_117 rfl rfl rfl (Nat.le_of_ble_eq_true rfl) ⟨Nat.le_of_ble_eq_true rfl, Nat.le_of_ble_eq_true rfl⟩ dX9_readTest_151 (fun r38 S37 h => ?_)
          refine V_ifb_ne (tgt := 159) C dX9_readTest_154 (by decide) (fun c => ?_) (fun c => ?_)
          · have h := h.1 c
            refine V_aload_n C 0 dX9_readTest_159 rfl rfl ?_
            refine V_aload_n C 0 dX9_readTest_160 rfl rfl ?_
            refine V_ga C 56 (by decide) (by decide) F_9_2 k_RX9_23 dX9_readTest_161 ?_
            refine V_bipush (v := 16) C dX9_readTest_164 (by decide) ?_
            refine V_aload_n C 0 dX9_readTest_166 rfl rfl ?_
            refine V_gi C 56 (by decide) (by decide) F_9_5 k_RX9_108 dX9_readTest_167 ?_
            refine V_iload_n C 2 dX9_readTest_170 rfl rfl ?_
            refine V_aload_n C 0 dX9_readTest_171 rfl rfl ?_
            refine V_ga C 56 (by decide) (by decide) F_9_0 k_RX9_15 dX9_readTest_172 ?_
            refine V_callVi (As := []) (rest := [.int r36, .int (S37.1 56 5), .int 16, .ref (G.1 47), .ref (G.1 56)]) C (c_X6_number (v_l X) G  _ h) 5 6 (by decide) (by decide) (by decide) rfl KV_X6_number k_RX9_121 rfl rfl rfl (Nat.le_of_ble_eq_true rfl) ⟨Nat.le_of_ble_eq_true rfl, Nat.le_of_ble_eq_true rfl⟩ dX9_readTest_175 (fun r40 S39 h => ?_)
            refine V_callVi (As := [.int 16, .int (S37.1 56 5), .int r36, .int r40]) (rest := [.ref (G.1 56)]) C (c_X8_add (v_l X) G v_i32 _ _ _ _ _ h) 47 8 (by decide) (by decide) (by decide) rfl KV_X8_add k_RX9_63 rfl rfl rfl (Nat.le_of_ble_eq_true rfl) ⟨Nat.le_of_ble_eq_true rfl, Nat.le_of_ble_eq_true rfl⟩ dX9_readTest_178 (fun r42 S41 h => ?_)
            refine V_callVv (As := [.int r42]) (rest := []) C (c_X9_open (v_l X) G  _ _ h) 56 9 (by decide) (by decide) (by decide) rfl KV_X9_open k_RX9_124 rfl rfl rfl (Nat.le_of_ble_eq_true rfl) ⟨Nat.le_of_ble_eq_true rfl, Nat.le_of_ble_eq_true rfl⟩ dX9_readTest_181 (fun S43 h => ?_)
            refine V_iconst (v := 1) C dX9_readTest_184 (by decide) ?_
            exact V_zret1 C D dX9_readTest_185 h
          · have h := h.2 c
            refine V_iconst (v := 0) C dX9_readTest_157 (by decide) ?_
            exact V_zret0 C D dX9_readTest_158 h
        · have h := h.2 c
          refine V_loc (lv' := [(0, .ref (G.1 56))]) [0] rfl ?_
          exact q_X9_readTest_119 C D  _ h
    · have h := h.2 c
      refine V_aload_n C 0 dX9_readTest_72 rfl rfl ?_
      refine V_aload_n C 0 dX9_readTest_73 rfl rfl ?_
      refine V_ga C 56 (by decide) (by decide) F_9_2 k_RX9_23 dX9_readTest_74 ?_
      refine V_bipush (v := 16) C dX9_readTest_77 (by decide) ?_
      refine V_aload_n C 0 dX9_readTest_79 rfl rfl ?_
      refine V_gi C 56 (by decide) (by decide) F_9_5 k_RX9_108 dX9_readTest_80 ?_
      refine V_iload_n C 1 dX9_readTest_83 rfl rfl ?_
      refine V_iconst (v := 0) C dX9_readTest_84 (by decide) ?_
      refine V_callVi (As := [.int 16, .int (S32.1 56 5), .int x1, .int 0]) (rest := [.ref (G.1 56)]) C (c_X8_add (v_l X) G v_i32 _ _ _ _ _ h) 47 8 (by decide) (by decide) (by decide) rfl KV_X8_add k_RX9_63 rfl rfl rfl (Nat.le_of_ble_eq_true rfl) ⟨Nat.le_of_ble_eq_true rfl, Nat.le_of_ble_eq_true rfl⟩ dX9_readTest_85 (fun r45 S44 h => ?_)
      refine V_callVv (As := [.int r45]) (rest := []) C (c_X9_open (v_l X) G  _ _ h) 56 9 (by decide) (by decide) (by decide) rfl KV_X9_open k_RX9_124 rfl rfl rfl (Nat.le_of_ble_eq_true rfl) ⟨Nat.le_of_ble_eq_true rfl, Nat.le_of_ble_eq_true rfl⟩ dX9_readTest_88 (fun S46 h => ?_)
      refine V_iconst (v := 1) C dX9_readTest_91 (by decide) ?_
      exact V_zret1 C D dX9_readTest_92 h
  · have h := h.2 c
    refine V_iconst (v := 0) C dX9_readTest_65 (by decide) ?_
    exact V_zret0 C D dX9_readTest_66 h
set_option maxHeartbeats 4000000 in
set_option maxRecDepth 100000 in
theorem q_X9_readTest_34 {X : vX} {G : vG}  {post : Bool → vSt → Prop} (C : v_Cx X G cX9_readTest RX9 3 (v_rm 3 104)) (D : v_Rx X G (v_Qz G post) (some .boolean))     : ∀ (S : vSt) (x1 : Int32), p_X9_readTest_34  post S x1 → VJ X G S 34 [(0, .ref (G.1 56)), (1, .int x1)] [] := by
  intro S x1 h
  refine V_aload_n C 0 dX9_readTest_34 rfl rfl ?_
  refine V_ga C 56 (by decide) (by decide) F_9_0 k_RX9_15 dX9_readTest_35 ?_
  refine V_callVv (As := []) (rest := []) C (c_X6_pass (v_l X) G  _ h) 5 6 (by decide) (by decide) (by decide) rfl KV_X6_pass k_RX9_71 rfl rfl rfl (Nat.le_of_ble_eq_true rfl) ⟨Nat.le_of_ble_eq_true rfl, Nat.le_of_ble_eq_true rfl⟩ dX9_readTest_38 (fun S29 h => ?_)
  refine V_aload_n C 0 dX9_readTest_41 rfl rfl ?_
  refine V_iload_n C 1 dX9_readTest_42 rfl rfl ?_
  refine V_bipush (v := 17) C dX9_readTest_43 (by decide) ?_
  refine V_icmp_ne (tgt := 55) C dX9_readTest_45 (by decide) (fun c => ?_) (fun c => ?_)
  · have h := h.1 c
    refine V_aload_n C 0 dX9_readTest_55 rfl rfl ?_
    refine V_callVi (As := []) (rest := [.ref (G.1 56)]) C (c_X9_personNow (v_l X) G  _ h) 56 9 (by decide) (by decide) (by decide) rfl KV_X9_personNow k_RX9_102 rfl rfl rfl (Nat.le_of_ble_eq_true rfl) ⟨Nat.le_of_ble_eq_true rfl, Nat.le_of_ble_eq_true rfl⟩ dX9_readTest_56 (fun r31 S30 h => ?_)
    exact q_X9_readTest_59 C D  _ _ _ h
  · have h := h.2 c
    refine V_aload_n C 0 dX9_readTest_48 rfl rfl ?_
    refine V_callVi (As := []) (rest := [.ref (G.1 56)]) C (c_X9_deedNow (v_l X) G  _ h) 56 9 (by decide) (by decide) (by decide) rfl KV_X9_deedNow k_RX9_111 rfl rfl rfl (Nat.le_of_ble_eq_true rfl) ⟨Nat.le_of_ble_eq_true rfl, Nat.le_of_ble_eq_true rfl⟩ dX9_readTest_49 (fun r33 S32 h => ?_)
    refine V_goto (tgt := 59) C dX9_readTest_52 (by decide) ?_
    exact q_X9_readTest_59 C D  _ _ _ h
set_option maxHeartbeats 4000000 in
set_option maxRecDepth 100000 in
theorem c_X9_readTest (l : Launch) (G : vG)    {S : vSt}  (post : Bool → vSt → Prop) (h : p_X9_readTest   S  post) : Met l yX9_readTest (v_ws yX9_readTest cX9_readTest 3 (some .boolean)) (v_rm 3 104) (v_Pc G [.ref (G.1 56)] S) (v_Qz G post) 0 0 (v_A G) := by
  refine v_start (by decide +kernel) (Nat.le_of_ble_eq_true rfl) (fun X hl C D => ?_)
  subst hl
  have C : v_Cx X G cX9_readTest RX9 3 (v_rm 3 104) := C
  show VJ X G S 0 [(0, .ref (G.1 56))] []
  refine V_aload_n C 0 dX9_readTest_0 rfl rfl ?_
  refine V_ga C 56 (by decide) (by decide) F_9_0 k_RX9_15 dX9_readTest_1 ?_
  refine V_callVi (As := []) (rest := []) C (c_X6_wordNow (v_l X) G  _ h) 5 6 (by decide) (by decide) (by decide) rfl KV_X6_wordNow k_RX9_77 rfl rfl rfl (Nat.le_of_ble_eq_true rfl) ⟨Nat.le_of_ble_eq_true rfl, Nat.le_of_ble_eq_true rfl⟩ dX9_readTest_4 (fun r28 S27 h => ?_)
  refine V_istore_n (lv' := [(0, .ref (G.1 56)), (1, .int r28)]) C [1, 0] dX9_readTest_7 rfl (by decide) rfl ?_
  refine V_iload_n C 1 dX9_readTest_8 rfl rfl ?_
  refine V_bipush (v := 17) C dX9_readTest_9 (by decide) ?_
  refine V_icmp_eq (tgt := 34) C dX9_readTest_11 (by decide) (fun c => ?_) (fun c => ?_)
  · have h := h.1 c
    exact q_X9_readTest_34 C D  _ _ h
  · have h := h.2 c
    refine V_iload_n C 1 dX9_readTest_14 rfl rfl ?_
    refine V_bipush (v := 18) C dX9_readTest_15 (by decide) ?_
    refine V_icmp_eq (tgt := 34) C dX9_readTest_17 (by decide) (fun c => ?_) (fun c => ?_)
    · have h := h.1 c
      exact q_X9_readTest_34 C D  _ _ h
    · have h := h.2 c
      refine V_iload_n C 1 dX9_readTest_20 rfl rfl ?_
      refine V_iconst (v := 5) C dX9_readTest_21 (by decide) ?_
      refine V_icmp_eq (tgt := 34) C dX9_readTest_22 (by decide) (fun c => ?_) (fun c => ?_)
      · have h := h.1 c
        exact q_X9_readTest_34 C D  _ _ h
      · have h := h.2 c
        refine V_aload_n C 0 dX9_readTest_25 rfl rfl ?_
        refine V_ga C 56 (by decide) (by decide) F_9_0 k_RX9_15 dX9_readTest_26 ?_
        refine V_iconst (v := 2) C dX9_readTest_29 (by decide) ?_
        refine V_callVz (As := [.int 2]) (rest := []) C (c_X6_blame (v_l X) G  _ _ h) 5 6 (by decide) (by decide) (by decide) rfl KV_X6_blame k_RX9_56 rfl rfl rfl (Nat.le_of_ble_eq_true rfl) ⟨Nat.le_of_ble_eq_true rfl, Nat.le_of_ble_eq_true rfl⟩ dX9_readTest_30 (fun r30 S29 h => ?_)
        exact V_zret C D dX9_readTest_33 h
/-! HalfAccuser$YearsReader.readStep()Z -/
theorem dX9_readStep_0 : decode cX9_readStep 0 = .ok ((.aload_n 0), 1) := by decide +kernel
theorem dX9_readStep_1 : decode cX9_readStep 1 = .ok ((.getfield 15), 3) := by decide +kernel
theorem dX9_readStep_4 : decode cX9_readStep 4 = .ok ((.invokevirtual 77), 3) := by decide +kernel
theorem dX9_readStep_7 : decode cX9_readStep 7 = .ok ((.istore_n 1), 1) := by decide +kernel
theorem dX9_readStep_8 : decode cX9_readStep 8 = .ok ((.iload_n 1), 1) := by decide +kernel
theorem dX9_readStep_9 : decode cX9_readStep 9 = .ok ((.invokestatic 81), 3) := by decide +kernel
theorem dX9_readStep_12 : decode cX9_readStep 12 = .ok ((.ifCond .ne 12), 3) := by decide +kernel
theorem dX9_readStep_15 : decode cX9_readStep 15 = .ok ((.aload_n 0), 1) := by decide +kernel
theorem dX9_readStep_16 : decode cX9_readStep 16 = .ok ((.getfield 15), 3) := by decide +kernel
theorem dX9_readStep_19 : decode cX9_readStep 19 = .ok ((.iconst 2), 1) := by decide +kernel
theorem dX9_readStep_20 : decode cX9_readStep 20 = .ok ((.invokevirtual 56), 3) := by decide +kernel
theorem dX9_readStep_23 : decode cX9_readStep 23 = .ok (.ireturn, 1) := by decide +kernel
theorem dX9_readStep_24 : decode cX9_readStep 24 = .ok ((.aload_n 0), 1) := by decide +kernel
theorem dX9_readStep_25 : decode cX9_readStep 25 = .ok ((.getfield 23), 3) := by decide +kernel
theorem dX9_readStep_28 : decode cX9_readStep 28 = .ok ((.getfield 84), 3) := by decide +kernel
theorem dX9_readStep_31 : decode cX9_readStep 31 = .ok ((.bipush 30), 2) := by decide +kernel
theorem dX9_readStep_33 : decode cX9_readStep 33 = .ok ((.if_icmp .lt 13), 3) := by decide +kernel
theorem dX9_readStep_36 : decode cX9_readStep 36 = .ok ((.aload_n 0), 1) := by decide +kernel
theorem dX9_readStep_37 : decode cX9_readStep 37 = .ok ((.getfield 15), 3) := by decide +kernel
theorem dX9_readStep_40 : decode cX9_readStep 40 = .ok ((.bipush 6), 2) := by decide +kernel
theorem dX9_readStep_42 : decode cX9_readStep 42 = .ok ((.invokevirtual 56), 3) := by decide +kernel
theorem dX9_readStep_45 : decode cX9_readStep 45 = .ok (.ireturn, 1) := by decide +kernel
theorem dX9_readStep_46 : decode cX9_readStep 46 = .ok ((.iload_n 1), 1) := by decide +kernel
theorem dX9_readStep_47 : decode cX9_readStep 47 = .ok ((.bipush 16), 2) := by decide +kernel
theorem dX9_readStep_49 : decode cX9_readStep 49 = .ok ((.if_icmp .eq 9), 3) := by decide +kernel
theorem dX9_readStep_52 : decode cX9_readStep 52 = .ok ((.iload_n 1), 1) := by decide +kernel
theorem dX9_readStep_53 : decode cX9_readStep 53 = .ok ((.bipush 19), 2) := by decide +kernel
theorem dX9_readStep_55 : decode cX9_readStep 55 = .ok ((.if_icmp .ne 21), 3) := by decide +kernel
theorem dX9_readStep_58 : decode cX9_readStep 58 = .ok ((.aload_n 0), 1) := by decide +kernel
theorem dX9_readStep_59 : decode cX9_readStep 59 = .ok ((.getfield 36), 3) := by decide +kernel
theorem dX9_readStep_62 : decode cX9_readStep 62 = .ok ((.iconst 3), 1) := by decide +kernel
theorem dX9_readStep_63 : decode cX9_readStep 63 = .ok ((.if_icmp .lt 13), 3) := by decide +kernel
theorem dX9_readStep_66 : decode cX9_readStep 66 = .ok ((.aload_n 0), 1) := by decide +kernel
theorem dX9_readStep_67 : decode cX9_readStep 67 = .ok ((.getfield 15), 3) := by decide +kernel
theorem dX9_readStep_70 : decode cX9_readStep 70 = .ok ((.bipush 7), 2) := by decide +kernel
theorem dX9_readStep_72 : decode cX9_readStep 72 = .ok ((.invokevirtual 56), 3) := by decide +kernel
theorem dX9_readStep_75 : decode cX9_readStep 75 = .ok (.ireturn, 1) := by decide +kernel
theorem dX9_readStep_76 : decode cX9_readStep 76 = .ok ((.aload_n 0), 1) := by decide +kernel
theorem dX9_readStep_77 : decode cX9_readStep 77 = .ok ((.getfield 15), 3) := by decide +kernel
theorem dX9_readStep_80 : decode cX9_readStep 80 = .ok ((.invokevirtual 71), 3) := by decide +kernel
theorem dX9_readStep_83 : decode cX9_readStep 83 = .ok ((.iconst 1), 1) := by decide +kernel
theorem dX9_readStep_84 : decode cX9_readStep 84 = .ok ((.istore_n 2), 1) := by decide +kernel
theorem dX9_readStep_85 : decode cX9_readStep 85 = .ok ((.iload_n 1), 1) := by decide +kernel
theorem dX9_readStep_86 : decode cX9_readStep 86 = .ok ((.tableswitch 90 11 19 #[50, 58, 90, 66, 90, 74, 90, 90, 82]), 50) := by decide +kernel
theorem dX9_readStep_136 : decode cX9_readStep 136 = .ok ((.aload_n 0), 1) := by decide +kernel
theorem dX9_readStep_137 : decode cX9_readStep 137 = .ok ((.invokevirtual 87), 3) := by decide +kernel
theorem dX9_readStep_140 : decode cX9_readStep 140 = .ok ((.istore_n 2), 1) := by decide +kernel
theorem dX9_readStep_141 : decode cX9_readStep 141 = .ok ((.goto 47), 3) := by decide +kernel
theorem dX9_readStep_144 : decode cX9_readStep 144 = .ok ((.aload_n 0), 1) := by decide +kernel
theorem dX9_readStep_145 : decode cX9_readStep 145 = .ok ((.invokevirtual 90), 3) := by decide +kernel
theorem dX9_readStep_148 : decode cX9_readStep 148 = .ok ((.istore_n 2), 1) := by decide +kernel
theorem dX9_readStep_149 : decode cX9_readStep 149 = .ok ((.goto 39), 3) := by decide +kernel
theorem dX9_readStep_152 : decode cX9_readStep 152 = .ok ((.aload_n 0), 1) := by decide +kernel
theorem dX9_readStep_153 : decode cX9_readStep 153 = .ok ((.invokevirtual 93), 3) := by decide +kernel
theorem dX9_readStep_156 : decode cX9_readStep 156 = .ok ((.istore_n 2), 1) := by decide +kernel
theorem dX9_readStep_157 : decode cX9_readStep 157 = .ok ((.goto 31), 3) := by decide +kernel
theorem dX9_readStep_160 : decode cX9_readStep 160 = .ok ((.aload_n 0), 1) := by decide +kernel
theorem dX9_readStep_161 : decode cX9_readStep 161 = .ok ((.invokevirtual 96), 3) := by decide +kernel
theorem dX9_readStep_164 : decode cX9_readStep 164 = .ok ((.istore_n 2), 1) := by decide +kernel
theorem dX9_readStep_165 : decode cX9_readStep 165 = .ok ((.goto 23), 3) := by decide +kernel
theorem dX9_readStep_168 : decode cX9_readStep 168 = .ok ((.aload_n 0), 1) := by decide +kernel
theorem dX9_readStep_169 : decode cX9_readStep 169 = .ok ((.invokevirtual 99), 3) := by decide +kernel
theorem dX9_readStep_172 : decode cX9_readStep 172 = .ok ((.istore_n 2), 1) := by decide +kernel
theorem dX9_readStep_173 : decode cX9_readStep 173 = .ok ((.goto 15), 3) := by decide +kernel
theorem dX9_readStep_176 : decode cX9_readStep 176 = .ok ((.aload_n 0), 1) := by decide +kernel
theorem dX9_readStep_177 : decode cX9_readStep 177 = .ok ((.getfield 23), 3) := by decide +kernel
theorem dX9_readStep_180 : decode cX9_readStep 180 = .ok ((.iload_n 1), 1) := by decide +kernel
theorem dX9_readStep_181 : decode cX9_readStep 181 = .ok ((.iconst (-1)), 1) := by decide +kernel
theorem dX9_readStep_182 : decode cX9_readStep 182 = .ok ((.iconst (-1)), 1) := by decide +kernel
theorem dX9_readStep_183 : decode cX9_readStep 183 = .ok ((.iconst 0), 1) := by decide +kernel
theorem dX9_readStep_184 : decode cX9_readStep 184 = .ok ((.invokevirtual 63), 3) := by decide +kernel
theorem dX9_readStep_187 : decode cX9_readStep 187 = .ok (.pop, 1) := by decide +kernel
theorem dX9_readStep_188 : decode cX9_readStep 188 = .ok ((.iload_n 2), 1) := by decide +kernel
theorem dX9_readStep_189 : decode cX9_readStep 189 = .ok ((.ifCond .eq 17), 3) := by decide +kernel
theorem dX9_readStep_192 : decode cX9_readStep 192 = .ok ((.aload_n 0), 1) := by decide +kernel
theorem dX9_readStep_193 : decode cX9_readStep 193 = .ok ((.getfield 15), 3) := by decide +kernel
theorem dX9_readStep_196 : decode cX9_readStep 196 = .ok ((.invokevirtual 74), 3) := by decide +kernel
theorem dX9_readStep_199 : decode cX9_readStep 199 = .ok ((.ifCond .eq 7), 3) := by decide +kernel
theorem dX9_readStep_202 : decode cX9_readStep 202 = .ok ((.iconst 1), 1) := by decide +kernel
theorem dX9_readStep_203 : decode cX9_readStep 203 = .ok ((.goto 4), 3) := by decide +kernel
theorem dX9_readStep_206 : decode cX9_readStep 206 = .ok ((.iconst 0), 1) := by decide +kernel
theorem dX9_readStep_207 : decode cX9_readStep 207 = .ok (.ireturn, 1) := by decide +kernel
def p_X9_readStep_188     (post : Bool → vSt → Prop) (S : vSt) (x2 : Bool) : Prop := ((x2 = false → post false S) ∧ (x2 = true → p_X6_takeSemicolon  S  (fun r42 S41 => ((r42 = false → post false S41) ∧ (r42 = true → post true S41)))))
def p_X9_readStep_76     (post : Bool → vSt → Prop) (S : vSt) (x1 : Int32) : Prop := p_X6_pass  S  (fun S38 => ((x1 = 11 → p_X9_readCharge  S38  (fun r40 S39 => p_X9_readStep_188  post S39 r40)) ∧ ((x1 = 12 → p_X9_readDrop  S38  (fun r42 S41 => p_X9_readStep_188  post S41 r42)) ∧ ((x1 = 13 → p_X8_add 32 S38 x1 (-1) (-1) 0 (fun r44 S43 => p_X9_readStep_188  post S43 true)) ∧ ((x1 = 14 → p_X9_readEarn  S38  (fun r46 S45 => p_X9_readStep_188  post S45 r46)) ∧ ((x1 = 15 → p_X8_add 32 S38 x1 (-1) (-1) 0 (fun r48 S47 => p_X9_readStep_188  post S47 true)) ∧ ((x1 = 16 → p_X9_readTest  S38  (fun r50 S49 => p_X9_readStep_188  post S49 r50)) ∧ ((x1 = 17 → p_X8_add 32 S38 x1 (-1) (-1) 0 (fun r52 S51 => p_X9_readStep_188  post S51 true)) ∧ ((x1 = 18 → p_X8_add 32 S38 x1 (-1) (-1) 0 (fun r54 S53 => p_X9_readStep_188  post S53 true)) ∧ ((x1 = 19 → p_X9_readLoop  S38  (fun r56 S55 => p_X9_readStep_188  post S55 r56)) ∧ (x1 < 11 ∨ 19 < x1 → p_X8_add 32 S38 x1 (-1) (-1) 0 (fun r58 S57 => p_X9_readStep_188  post S57 true))))))))))))
def p_X9_readStep_58     (post : Bool → vSt → Prop) (S : vSt) (x1 : Int32) : Prop := (((S.1 56 4) < 3 → p_X9_readStep_76  post S x1) ∧ (¬ (S.1 56 4) < 3 → p_X6_blame  S 7 (fun r39 S38 => post r39 S38)))
def p_X9_readStep   (S : vSt)  (post : Bool → vSt → Prop) : Prop := p_X6_wordNow  S  (fun r35 S34 => p_X9_beginsStep  S34 r35 (fun r37 S36 => ((r37 = true → (((S36.1 47 7) < 30 → ((r35 = 16 → p_X9_readStep_58  post S36 r35) ∧ (¬ r35 = 16 → ((¬ r35 = 19 → p_X9_readStep_76  post S36 r35) ∧ (r35 = 19 → p_X9_readStep_58  post S36 r35))))) ∧ (¬ (S36.1 47 7) < 30 → p_X6_blame  S36 6 (fun r39 S38 => post r39 S38)))) ∧ (r37 = false → p_X6_blame  S36 2 (fun r41 S40 => post r41 S40)))))
set_option maxHeartbeats 4000000 in
set_option maxRecDepth 100000 in
theorem q_X9_readStep_188 {X : vX} {G : vG}  {post : Bool → vSt → Prop} (C : v_Cx X G cX9_readStep RX9 3 (v_rm 4 126)) (D : v_Rx X G (v_Qz G post) (some .boolean))     : ∀ (S : vSt) (x2 : Bool), p_X9_readStep_188  post S x2 → VJ X G S 188 [(0, .ref (G.1 56)), (2, .int (v_b x2))] [] := by
  intro S x2 h
  refine V_iload_n C 1 dX9_readStep_188 rfl rfl ?_
  refine V_ifb_eq (tgt := 206) C dX9_readStep_189 (by decide) (fun c => ?_) (fun c => ?_)
  · have h := h.1 c
    refine V_iconst (v := 0) C dX9_readStep_206 (by decide) ?_
    exact V_zret0 C D dX9_readStep_207 h
  · have h := h.2 c
    refine V_aload_n C 0 dX9_readStep_192 rfl rfl ?_
    refine V_ga C 56 (by decide) (by decide) F_9_0 k_RX9_15 dX9_readStep_193 ?_
    refine V_callVz (As := []) (rest := []) C (c_X6_takeSemicolon (v_l X) G  _ h) 5 6 (by decide) (by decide) (by decide) rfl KV_X6_takeSemicolon k_RX9_74 rfl rfl rfl (Nat.le_of_ble_eq_true rfl) ⟨Nat.le_of_ble_eq_true rfl, Nat.le_of_ble_eq_true rfl⟩ dX9_readStep_196 (fun r42 S41 h => ?_)
    refine V_ifb_eq (tgt := 206) C dX9_readStep_199 (by decide) (fun c => ?_) (fun c => ?_)
    · have h := h.1 c
      refine V_iconst (v := 0) C dX9_readStep_206 (by decide) ?_
      exact V_zret0 C D dX9_readStep_207 h
    · have h := h.2 c
      refine V_iconst (v := 1) C dX9_readStep_202 (by decide) ?_
      refine V_goto (tgt := 207) C dX9_readStep_203 (by decide) ?_
      exact V_zret1 C D dX9_readStep_207 h
set_option maxHeartbeats 4000000 in
set_option maxRecDepth 100000 in
theorem q_X9_readStep_76 {X : vX} {G : vG}  {post : Bool → vSt → Prop} (C : v_Cx X G cX9_readStep RX9 3 (v_rm 4 126)) (D : v_Rx X G (v_Qz G post) (some .boolean))     : ∀ (S : vSt) (x1 : Int32), p_X9_readStep_76  post S x1 → VJ X G S 76 [(0, .ref (G.1 56)), (1, .int x1)] [] := by
  intro S x1 h
  refine V_aload_n C 0 dX9_readStep_76 rfl rfl ?_
  refine V_ga C 56 (by decide) (by decide) F_9_0 k_RX9_15 dX9_readStep_77 ?_
  refine V_callVv (As := []) (rest := []) C (c_X6_pass (v_l X) G  _ h) 5 6 (by decide) (by decide) (by decide) rfl KV_X6_pass k_RX9_71 rfl rfl rfl (Nat.le_of_ble_eq_true rfl) ⟨Nat.le_of_ble_eq_true rfl, Nat.le_of_ble_eq_true rfl⟩ dX9_readStep_80 (fun S38 h => ?_)
  refine V_iconst (v := 1) C dX9_readStep_83 (by decide) ?_
  refine V_istore_n (lv' := [(0, .ref (G.1 56)), (1, .int x1), (2, .int 1)]) C [1, 2, 0] dX9_readStep_84 rfl (by decide) rfl ?_
  refine V_iload_n C 1 dX9_readStep_85 rfl rfl ?_
  refine V_table (tgtd := 176) C dX9_readStep_86 (by decide) (fun c => ?_) (fun k hk c => ?_)
  · have h := h.2.2.2.2.2.2.2.2.2 (v_iout 11 19 c (by decide) (by decide))
    refine V_aload_n C 0 dX9_readStep_176 rfl rfl ?_
    refine V_ga C 56 (by decide) (by decide) F_9_2 k_RX9_23 dX9_readStep_177 ?_
    refine V_iload_n C 1 dX9_readStep_180 rfl rfl ?_
    refine V_iconst (v := (-1)) C dX9_readStep_181 (by decide) ?_
    refine V_iconst (v := (-1)) C dX9_readStep_182 (by decide) ?_
    refine V_iconst (v := 0) C dX9_readStep_183 (by decide) ?_
    refine V_callVi (As := [.int x1, .int (-1), .int (-1), .int 0]) (rest := []) C (c_X8_add (v_l X) G v_i32 _ _ _ _ _ h) 47 8 (by decide) (by decide) (by decide) rfl KV_X8_add k_RX9_63 rfl rfl rfl (Nat.le_of_ble_eq_true rfl) ⟨Nat.le_of_ble_eq_true rfl, Nat.le_of_ble_eq_true rfl⟩ dX9_readStep_184 (fun r58 S57 h => ?_)
    refine V_pop C dX9_readStep_187 rfl ?_
    refine V_loc (lv' := [(0, .ref (G.1 56)), (2, .int 1)]) [0, 2] rfl ?_
    exact q_X9_readStep_188 C D  _ _ h
  · have hk : k < 9 := hk
    rcases (show k = 0 ∨ k = 1 ∨ k = 2 ∨ k = 3 ∨ k = 4 ∨ k = 5 ∨ k = 6 ∨ k = 7 ∨ k = 8 by omega) with rfl | rfl | rfl | rfl | rfl | rfl | rfl | rfl | rfl
    · refine ⟨136, by decide, ?_⟩
      have h := h.1 (v_ieq 11 c (by decide))
      refine V_aload_n C 0 dX9_readStep_136 rfl rfl ?_
      refine V_callVz (As := []) (rest := []) C (c_X9_readCharge (v_l X) G  _ h) 56 9 (by decide) (by decide) (by decide) rfl KV_X9_readCharge k_RX9_87 rfl rfl rfl (Nat.le_of_ble_eq_true rfl) ⟨Nat.le_of_ble_eq_true rfl, Nat.le_of_ble_eq_true rfl⟩ dX9_readStep_137 (fun r40 S39 h => ?_)
      refine V_istore_n (lv' := [(0, .ref (G.1 56)), (1, .int x1), (2, .int (v_b r40))]) C [1, 2, 0] dX9_readStep_140 rfl (by decide) rfl ?_
      refine V_goto (tgt := 188) C dX9_readStep_141 (by decide) ?_
      refine V_loc (lv' := [(0, .ref (G.1 56)), (2, .int (v_b r40))]) [0, 2] rfl ?_
      exact q_X9_readStep_188 C D  _ _ h
    · refine ⟨144, by decide, ?_⟩
      have h := h.2.1 (v_ieq 12 c (by decide))
      refine V_aload_n C 0 dX9_readStep_144 rfl rfl ?_
      refine V_callVz (As := []) (rest := []) C (c_X9_readDrop (v_l X) G  _ h) 56 9 (by decide) (by decide) (by decide) rfl KV_X9_readDrop k_RX9_90 rfl rfl rfl (Nat.le_of_ble_eq_true rfl) ⟨Nat.le_of_ble_eq_true rfl, Nat.le_of_ble_eq_true rfl⟩ dX9_readStep_145 (fun r42 S41 h => ?_)
      refine V_istore_n (lv' := [(0, .ref (G.1 56)), (1, .int x1), (2, .int (v_b r42))]) C [1, 2, 0] dX9_readStep_148 rfl (by decide) rfl ?_
      refine V_goto (tgt := 188) C dX9_readStep_149 (by decide) ?_
      refine V_loc (lv' := [(0, .ref (G.1 56)), (2, .int (v_b r42))]) [0, 2] rfl ?_
      exact q_X9_readStep_188 C D  _ _ h
    · refine ⟨176, by decide, ?_⟩
      have h := h.2.2.1 (v_ieq 13 c (by decide))
      refine V_aload_n C 0 dX9_readStep_176 rfl rfl ?_
      refine V_ga C 56 (by decide) (by decide) F_9_2 k_RX9_23 dX9_readStep_177 ?_
      refine V_iload_n C 1 dX9_readStep_180 rfl rfl ?_
      refine V_iconst (v := (-1)) C dX9_readStep_181 (by decide) ?_
      refine V_iconst (v := (-1)) C dX9_readStep_182 (by decide) ?_
      refine V_iconst (v := 0) C dX9_readStep_183 (by decide) ?_
      refine V_callVi (As := [.int x1, .int (-1), .int (-1), .int 0]) (rest := []) C (c_X8_add (v_l X) G v_i32 _ _ _ _ _ h) 47 8 (by decide) (by decide) (by decide) rfl KV_X8_add k_RX9_63 rfl rfl rfl (Nat.le_of_ble_eq_true rfl) ⟨Nat.le_of_ble_eq_true rfl, Nat.le_of_ble_eq_true rfl⟩ dX9_readStep_184 (fun r44 S43 h => ?_)
      refine V_pop C dX9_readStep_187 rfl ?_
      refine V_loc (lv' := [(0, .ref (G.1 56)), (2, .int 1)]) [0, 2] rfl ?_
      exact q_X9_readStep_188 C D  _ _ h
    · refine ⟨152, by decide, ?_⟩
      have h := h.2.2.2.1 (v_ieq 14 c (by decide))
      refine V_aload_n C 0 dX9_readStep_152 rfl rfl ?_
      refine V_callVz (As := []) (rest := []) C (c_X9_readEarn (v_l X) G  _ h) 56 9 (by decide) (by decide) (by decide) rfl KV_X9_readEarn k_RX9_93 rfl rfl rfl (Nat.le_of_ble_eq_true rfl) ⟨Nat.le_of_ble_eq_true rfl, Nat.le_of_ble_eq_true rfl⟩ dX9_readStep_153 (fun r46 S45 h => ?_)
      refine V_istore_n (lv' := [(0, .ref (G.1 56)), (1, .int x1), (2, .int (v_b r46))]) C [1, 2, 0] dX9_readStep_156 rfl (by decide) rfl ?_
      refine V_goto (tgt := 188) C dX9_readStep_157 (by decide) ?_
      refine V_loc (lv' := [(0, .ref (G.1 56)), (2, .int (v_b r46))]) [0, 2] rfl ?_
      exact q_X9_readStep_188 C D  _ _ h
    · refine ⟨176, by decide, ?_⟩
      have h := h.2.2.2.2.1 (v_ieq 15 c (by decide))
      refine V_aload_n C 0 dX9_readStep_176 rfl rfl ?_
      refine V_ga C 56 (by decide) (by decide) F_9_2 k_RX9_23 dX9_readStep_177 ?_
      refine V_iload_n C 1 dX9_readStep_180 rfl rfl ?_
      refine V_iconst (v := (-1)) C dX9_readStep_181 (by decide) ?_
      refine V_iconst (v := (-1)) C dX9_readStep_182 (by decide) ?_
      refine V_iconst (v := 0) C dX9_readStep_183 (by decide) ?_
      refine V_callVi (As := [.int x1, .int (-1), .int (-1), .int 0]) (rest := []) C (c_X8_add (v_l X) G v_i32 _ _ _ _ _ h) 47 8 (by decide) (by decide) (by decide) rfl KV_X8_add k_RX9_63 rfl rfl rfl (Nat.le_of_ble_eq_true rfl) ⟨Nat.le_of_ble_eq_true rfl, Nat.le_of_ble_eq_true rfl⟩ dX9_readStep_184 (fun r48 S47 h => ?_)
      refine V_pop C dX9_readStep_187 rfl ?_
      refine V_loc (lv' := [(0, .ref (G.1 56)), (2, .int 1)]) [0, 2] rfl ?_
      exact q_X9_readStep_188 C D  _ _ h
    · refine ⟨160, by decide, ?_⟩
      have h := h.2.2.2.2.2.1 (v_ieq 16 c (by decide))
      refine V_aload_n C 0 dX9_readStep_160 rfl rfl ?_
      refine V_callVz (As := []) (rest := []) C (c_X9_readTest (v_l X) G  _ h) 56 9 (by decide) (by decide) (by decide) rfl KV_X9_readTest k_RX9_96 rfl rfl rfl (Nat.le_of_ble_eq_true rfl) ⟨Nat.le_of_ble_eq_true rfl, Nat.le_of_ble_eq_true rfl⟩ dX9_readStep_161 (fun r50 S49 h => ?_)
      refine V_istore_n (lv' := [(0, .ref (G.1 56)), (1, .int x1), (2, .int (v_b r50))]) C [1, 2, 0] dX9_readStep_164 rfl (by decide) rfl ?_
      refine V_goto (tgt := 188) C dX9_readStep_165 (by decide) ?_
      refine V_loc (lv' := [(0, .ref (G.1 56)), (2, .int (v_b r50))]) [0, 2] rfl ?_
      exact q_X9_readStep_188 C D  _ _ h
    · refine ⟨176, by decide, ?_⟩
      have h := h.2.2.2.2.2.2.1 (v_ieq 17 c (by decide))
      refine V_aload_n C 0 dX9_readStep_176 rfl rfl ?_
      refine V_ga C 56 (by decide) (by decide) F_9_2 k_RX9_23 dX9_readStep_177 ?_
      refine V_iload_n C 1 dX9_readStep_180 rfl rfl ?_
      refine V_iconst (v := (-1)) C dX9_readStep_181 (by decide) ?_
      refine V_iconst (v := (-1)) C dX9_readStep_182 (by decide) ?_
      refine V_iconst (v := 0) C dX9_readStep_183 (by decide) ?_
      refine V_callVi (As := [.int x1, .int (-1), .int (-1), .int 0]) (rest := []) C (c_X8_add (v_l X) G v_i32 _ _ _ _ _ h) 47 8 (by decide) (by decide) (by decide) rfl KV_X8_add k_RX9_63 rfl rfl rfl (Nat.le_of_ble_eq_true rfl) ⟨Nat.le_of_ble_eq_true rfl, Nat.le_of_ble_eq_true rfl⟩ dX9_readStep_184 (fun r52 S51 h => ?_)
      refine V_pop C dX9_readStep_187 rfl ?_
      refine V_loc (lv' := [(0, .ref (G.1 56)), (2, .int 1)]) [0, 2] rfl ?_
      exact q_X9_readStep_188 C D  _ _ h
    · refine ⟨176, by decide, ?_⟩
      have h := h.2.2.2.2.2.2.2.1 (v_ieq 18 c (by decide))
      refine V_aload_n C 0 dX9_readStep_176 rfl rfl ?_
      refine V_ga C 56 (by decide) (by decide) F_9_2 k_RX9_23 dX9_readStep_177 ?_
      refine V_iload_n C 1 dX9_readStep_180 rfl rfl ?_
      refine V_iconst (v := (-1)) C dX9_readStep_181 (by decide) ?_
      refine V_iconst (v := (-1)) C dX9_readStep_182 (by decide) ?_
      refine V_iconst (v := 0) C dX9_readStep_183 (by decide) ?_
      refine V_callVi (As := [.int x1, .int (-1), .int (-1), .int 0]) (rest := []) C (c_X8_add (v_l X) G v_i32 _ _ _ _ _ h) 47 8 (by decide) (by decide) (by decide) rfl KV_X8_add k_RX9_63 rfl rfl rfl (Nat.le_of_ble_eq_true rfl) ⟨Nat.le_of_ble_eq_true rfl, Nat.le_of_ble_eq_true rfl⟩ dX9_readStep_184 (fun r54 S53 h => ?_)
      refine V_pop C dX9_readStep_187 rfl ?_
      refine V_loc (lv' := [(0, .ref (G.1 56)), (2, .int 1)]) [0, 2] rfl ?_
      exact q_X9_readStep_188 C D  _ _ h
    · refine ⟨168, by decide, ?_⟩
      have h := h.2.2.2.2.2.2.2.2.1 (v_ieq 19 c (by decide))
      refine V_aload_n C 0 dX9_readStep_168 rfl rfl ?_
      refine V_callVz (As := []) (rest := []) C (c_X9_readLoop (v_l X) G  _ h) 56 9 (by decide) (by decide) (by decide) rfl KV_X9_readLoop k_RX9_99 rfl rfl rfl (Nat.le_of_ble_eq_true rfl) ⟨Nat.le_of_ble_eq_true rfl, Nat.le_of_ble_eq_true rfl⟩ dX9_readStep_169 (fun r56 S55 h => ?_)
      refine V_istore_n (lv' := [(0, .ref (G.1 56)), (1, .int x1), (2, .int (v_b r56))]) C [1, 2, 0] dX9_readStep_172 rfl (by decide) rfl ?_
      refine V_goto (tgt := 188) C dX9_readStep_173 (by decide) ?_
      refine V_loc (lv' := [(0, .ref (G.1 56)), (2, .int (v_b r56))]) [0, 2] rfl ?_
      exact q_X9_readStep_188 C D  _ _ h
set_option maxHeartbeats 4000000 in
set_option maxRecDepth 100000 in
theorem q_X9_readStep_58 {X : vX} {G : vG}  {post : Bool → vSt → Prop} (C : v_Cx X G cX9_readStep RX9 3 (v_rm 4 126)) (D : v_Rx X G (v_Qz G post) (some .boolean))     : ∀ (S : vSt) (x1 : Int32), p_X9_readStep_58  post S x1 → VJ X G S 58 [(0, .ref (G.1 56)), (1, .int x1)] [] := by
  intro S x1 h
  refine V_aload_n C 0 dX9_readStep_58 rfl rfl ?_
  refine V_gi C 56 (by decide) (by decide) F_9_4 k_RX9_36 dX9_readStep_59 ?_
  refine V_iconst (v := 3) C dX9_readStep_62 (by decide) ?_
  refine V_icmp_lt (tgt := 76) C dX9_readStep_63 (by decide) (fun c => ?_) (fun c => ?_)
  · have h := h.1 c
    exact q_X9_readStep_76 C D  _ _ h
  · have h := h.2 c
    refine V_aload_n C 0 dX9_readStep_66 rfl rfl ?_
    refine V_ga C 56 (by decide) (by decide) F_9_0 k_RX9_15 dX9_readStep_67 ?_
    refine V_bipush (v := 7) C dX9_readStep_70 (by decide) ?_
    refine V_callVz (As := [.int 7]) (rest := []) C (c_X6_blame (v_l X) G  _ _ h) 5 6 (by decide) (by decide) (by decide) rfl KV_X6_blame k_RX9_56 rfl rfl rfl (Nat.le_of_ble_eq_true rfl) ⟨Nat.le_of_ble_eq_true rfl, Nat.le_of_ble_eq_true rfl⟩ dX9_readStep_72 (fun r39 S38 h => ?_)
    exact V_zret C D dX9_readStep_75 h
set_option maxHeartbeats 4000000 in
set_option maxRecDepth 100000 in
theorem c_X9_readStep (l : Launch) (G : vG)    {S : vSt}  (post : Bool → vSt → Prop) (h : p_X9_readStep   S  post) : Met l yX9_readStep (v_ws yX9_readStep cX9_readStep 3 (some .boolean)) (v_rm 4 126) (v_Pc G [.ref (G.1 56)] S) (v_Qz G post) 0 0 (v_A G) := by
  refine v_start (by decide +kernel) (Nat.le_of_ble_eq_true rfl) (fun X hl C D => ?_)
  subst hl
  have C : v_Cx X G cX9_readStep RX9 3 (v_rm 4 126) := C
  show VJ X G S 0 [(0, .ref (G.1 56))] []
  refine V_aload_n C 0 dX9_readStep_0 rfl rfl ?_
  refine V_ga C 56 (by decide) (by decide) F_9_0 k_RX9_15 dX9_readStep_1 ?_
  refine V_callVi (As := []) (rest := []) C (c_X6_wordNow (v_l X) G  _ h) 5 6 (by decide) (by decide) (by decide) rfl KV_X6_wordNow k_RX9_77 rfl rfl rfl (Nat.le_of_ble_eq_true rfl) ⟨Nat.le_of_ble_eq_true rfl, Nat.le_of_ble_eq_true rfl⟩ dX9_readStep_4 (fun r35 S34 h => ?_)
  refine V_istore_n (lv' := [(0, .ref (G.1 56)), (1, .int r35)]) C [1, 0] dX9_readStep_7 rfl (by decide) rfl ?_
  refine V_iload_n C 1 dX9_readStep_8 rfl rfl ?_
  refine V_callSz (As := [.int r35]) (rest := []) C (c_X9_beginsStep (v_l X) G  _ _ h) KV_X9_beginsStep k_RX9_81 rfl rfl rfl (Nat.le_of_ble_eq_true rfl) ⟨Nat.le_of_ble_eq_true rfl, Nat.le_of_ble_eq_true rfl⟩ dX9_readStep_9 (fun r37 S36 h => ?_)
  refine V_ifb_ne (tgt := 24) C dX9_readStep_12 (by decide) (fun c => ?_) (fun c => ?_)
  · have h := h.1 c
    refine V_aload_n C 0 dX9_readStep_24 rfl rfl ?_
    refine V_ga C 56 (by decide) (by decide) F_9_2 k_RX9_23 dX9_readStep_25 ?_
    refine V_gi C 47 (by decide) (by decide) F_8_7 k_RX9_84 dX9_readStep_28 ?_
    refine V_bipush (v := 30) C dX9_readStep_31 (by decide) ?_
    refine V_icmp_lt (tgt := 46) C dX9_readStep_33 (by decide) (fun c => ?_) (fun c => ?_)
    · have h := h.1 c
      refine V_iload_n C 1 dX9_readStep_46 rfl rfl ?_
      refine V_bipush (v := 16) C dX9_readStep_47 (by decide) ?_
      refine V_icmp_eq (tgt := 58) C dX9_readStep_49 (by decide) (fun c => ?_) (fun c => ?_)
      · have h := h.1 c
        exact q_X9_readStep_58 C D  _ _ h
      · have h := h.2 c
        refine V_iload_n C 1 dX9_readStep_52 rfl rfl ?_
        refine V_bipush (v := 19) C dX9_readStep_53 (by decide) ?_
        refine V_icmp_ne (tgt := 76) C dX9_readStep_55 (by decide) (fun c => ?_) (fun c => ?_)
        · have h := h.1 c
          exact q_X9_readStep_76 C D  _ _ h
        · have h := h.2 c
          exact q_X9_readStep_58 C D  _ _ h
    · have h := h.2 c
      refine V_aload_n C 0 dX9_readStep_36 rfl rfl ?_
      refine V_ga C 56 (by decide) (by decide) F_9_0 k_RX9_15 dX9_readStep_37 ?_
      refine V_bipush (v := 6) C dX9_readStep_40 (by decide) ?_
      refine V_callVz (As := [.int 6]) (rest := []) C (c_X6_blame (v_l X) G  _ _ h) 5 6 (by decide) (by decide) (by decide) rfl KV_X6_blame k_RX9_56 rfl rfl rfl (Nat.le_of_ble_eq_true rfl) ⟨Nat.le_of_ble_eq_true rfl, Nat.le_of_ble_eq_true rfl⟩ dX9_readStep_42 (fun r39 S38 h => ?_)
      exact V_zret C D dX9_readStep_45 h
  · have h := h.2 c
    refine V_aload_n C 0 dX9_readStep_15 rfl rfl ?_
    refine V_ga C 56 (by decide) (by decide) F_9_0 k_RX9_15 dX9_readStep_16 ?_
    refine V_iconst (v := 2) C dX9_readStep_19 (by decide) ?_
    refine V_callVz (As := [.int 2]) (rest := []) C (c_X6_blame (v_l X) G  _ _ h) 5 6 (by decide) (by decide) (by decide) rfl KV_X6_blame k_RX9_56 rfl rfl rfl (Nat.le_of_ble_eq_true rfl) ⟨Nat.le_of_ble_eq_true rfl, Nat.le_of_ble_eq_true rfl⟩ dX9_readStep_20 (fun r41 S40 h => ?_)
    exact V_zret C D dX9_readStep_23 h
/-! HalfAccuser$YearsReader.readText()Z -/
theorem dX9_readText_0 : decode cX9_readText 0 = .ok ((.aload_n 0), 1) := by decide +kernel
theorem dX9_readText_1 : decode cX9_readText 1 = .ok ((.getfield 23), 3) := by decide +kernel
theorem dX9_readText_4 : decode cX9_readText 4 = .ok ((.invokevirtual 27), 3) := by decide +kernel
theorem dX9_readText_7 : decode cX9_readText 7 = .ok ((.aload_n 0), 1) := by decide +kernel
theorem dX9_readText_8 : decode cX9_readText 8 = .ok ((.getfield 23), 3) := by decide +kernel
theorem dX9_readText_11 : decode cX9_readText 11 = .ok ((.iconst 1), 1) := by decide +kernel
theorem dX9_readText_12 : decode cX9_readText 12 = .ok ((.putfield 32), 3) := by decide +kernel
theorem dX9_readText_15 : decode cX9_readText 15 = .ok ((.aload_n 0), 1) := by decide +kernel
theorem dX9_readText_16 : decode cX9_readText 16 = .ok ((.iconst 0), 1) := by decide +kernel
theorem dX9_readText_17 : decode cX9_readText 17 = .ok ((.putfield 36), 3) := by decide +kernel
theorem dX9_readText_20 : decode cX9_readText 20 = .ok ((.iconst 0), 1) := by decide +kernel
theorem dX9_readText_21 : decode cX9_readText 21 = .ok ((.istore_n 1), 1) := by decide +kernel
theorem dX9_readText_22 : decode cX9_readText 22 = .ok ((.iload_n 1), 1) := by decide +kernel
theorem dX9_readText_23 : decode cX9_readText 23 = .ok ((.sipush 900), 3) := by decide +kernel
theorem dX9_readText_26 : decode cX9_readText 26 = .ok ((.if_icmp .gt 49), 3) := by decide +kernel
theorem dX9_readText_29 : decode cX9_readText 29 = .ok ((.aload_n 0), 1) := by decide +kernel
theorem dX9_readText_30 : decode cX9_readText 30 = .ok ((.getfield 15), 3) := by decide +kernel
theorem dX9_readText_33 : decode cX9_readText 33 = .ok ((.getfield 42), 3) := by decide +kernel
theorem dX9_readText_36 : decode cX9_readText 36 = .ok ((.ifCond .eq 39), 3) := by decide +kernel
theorem dX9_readText_39 : decode cX9_readText 39 = .ok ((.aload_n 0), 1) := by decide +kernel
theorem dX9_readText_40 : decode cX9_readText 40 = .ok ((.getfield 15), 3) := by decide +kernel
theorem dX9_readText_43 : decode cX9_readText 43 = .ok ((.bipush 20), 2) := by decide +kernel
theorem dX9_readText_45 : decode cX9_readText 45 = .ok ((.invokevirtual 45), 3) := by decide +kernel
theorem dX9_readText_48 : decode cX9_readText 48 = .ok ((.ifCond .eq 10), 3) := by decide +kernel
theorem dX9_readText_51 : decode cX9_readText 51 = .ok ((.aload_n 0), 1) := by decide +kernel
theorem dX9_readText_52 : decode cX9_readText 52 = .ok ((.invokevirtual 49), 3) := by decide +kernel
theorem dX9_readText_55 : decode cX9_readText 55 = .ok ((.goto 7), 3) := by decide +kernel
theorem dX9_readText_58 : decode cX9_readText 58 = .ok ((.aload_n 0), 1) := by decide +kernel
theorem dX9_readText_59 : decode cX9_readText 59 = .ok ((.invokevirtual 53), 3) := by decide +kernel
theorem dX9_readText_62 : decode cX9_readText 62 = .ok ((.istore_n 2), 1) := by decide +kernel
theorem dX9_readText_63 : decode cX9_readText 63 = .ok ((.iload_n 2), 1) := by decide +kernel
theorem dX9_readText_64 : decode cX9_readText 64 = .ok ((.ifCond .ne 5), 3) := by decide +kernel
theorem dX9_readText_67 : decode cX9_readText 67 = .ok ((.iconst 0), 1) := by decide +kernel
theorem dX9_readText_68 : decode cX9_readText 68 = .ok (.ireturn, 1) := by decide +kernel
theorem dX9_readText_69 : decode cX9_readText 69 = .ok ((.iinc 1 1), 3) := by decide +kernel
theorem dX9_readText_72 : decode cX9_readText 72 = .ok ((.goto (-50)), 3) := by decide +kernel
theorem dX9_readText_75 : decode cX9_readText 75 = .ok ((.aload_n 0), 1) := by decide +kernel
theorem dX9_readText_76 : decode cX9_readText 76 = .ok ((.getfield 36), 3) := by decide +kernel
theorem dX9_readText_79 : decode cX9_readText 79 = .ok ((.ifCond .eq 14), 3) := by decide +kernel
theorem dX9_readText_82 : decode cX9_readText 82 = .ok ((.aload_n 0), 1) := by decide +kernel
theorem dX9_readText_83 : decode cX9_readText 83 = .ok ((.getfield 15), 3) := by decide +kernel
theorem dX9_readText_86 : decode cX9_readText 86 = .ok ((.iconst 2), 1) := by decide +kernel
theorem dX9_readText_87 : decode cX9_readText 87 = .ok ((.invokevirtual 56), 3) := by decide +kernel
theorem dX9_readText_90 : decode cX9_readText 90 = .ok ((.ifCond .eq 7), 3) := by decide +kernel
theorem dX9_readText_93 : decode cX9_readText 93 = .ok ((.iconst 1), 1) := by decide +kernel
theorem dX9_readText_94 : decode cX9_readText 94 = .ok ((.goto 4), 3) := by decide +kernel
theorem dX9_readText_97 : decode cX9_readText 97 = .ok ((.iconst 0), 1) := by decide +kernel
theorem dX9_readText_98 : decode cX9_readText 98 = .ok (.ireturn, 1) := by decide +kernel
def p_X9_readText_75     (post : Bool → vSt → Prop) (S : vSt)  : Prop := (((S.1 56 4) = 0 → post true S) ∧ (¬ (S.1 56 4) = 0 → p_X6_blame  S 2 (fun r24 S23 => ((r24 = false → post false S23) ∧ (r24 = true → post true S23)))))
def p_X9_readText_62    (K22 : vSt → Int32 → Prop) (post : Bool → vSt → Prop) (S : vSt) (x1 : Int32) (s0 : Bool) : Prop := ((s0 = true → ∀ y27 : Int32, y27 = x1 + 1 → K22 S y27) ∧ (s0 = false → post false S))
def p_X9_readText_22     (post : Bool → vSt → Prop) : Nat → vSt → Int32 → Prop
  | 0 => fun _ _ => False
  | fu22 + 1 => fun S x1 => ((900 < x1 → p_X9_readText_75  post S ) ∧ (¬ 900 < x1 → (((S.1 5 7) = 0 → p_X9_readText_75  post S ) ∧ (¬ (S.1 5 7) = 0 → p_X6_isWord  S 20 (fun r24 S23 => ((r24 = false → p_X9_readStep  S23  (fun r26 S25 => p_X9_readText_62 (p_X9_readText_22  post fu22) post S25 x1 r26)) ∧ (r24 = true → p_X9_readEnd  S23  (fun r28 S27 => p_X9_readText_62 (p_X9_readText_22  post fu22) post S27 x1 r28))))))))
theorem e_X9_readText_22     (post : Bool → vSt → Prop) (fu22 : Nat) (S : vSt) (x1 : Int32) : p_X9_readText_22  post (fu22 + 1) S x1 = (((900 < x1 → p_X9_readText_75  post S ) ∧ (¬ 900 < x1 → (((S.1 5 7) = 0 → p_X9_readText_75  post S ) ∧ (¬ (S.1 5 7) = 0 → p_X6_isWord  S 20 (fun r24 S23 => ((r24 = false → p_X9_readStep  S23  (fun r26 S25 => p_X9_readText_62 (p_X9_readText_22  post fu22) post S25 x1 r26)) ∧ (r24 = true → p_X9_readEnd  S23  (fun r28 S27 => p_X9_readText_62 (p_X9_readText_22  post fu22) post S27 x1 r28))))))))) := rfl
def p_X9_readText   (S : vSt)  (post : Bool → vSt → Prop) : Prop := p_X8_clear 32 S  (fun S20 => ∀ S21, S21 = v_si S20 47 8 1 → ∀ S22, S22 = v_si S21 56 4 0 → ∃ fu22, p_X9_readText_22  post fu22 S22 0)
set_option maxHeartbeats 4000000 in
set_option maxRecDepth 100000 in
theorem q_X9_readText_75 {X : vX} {G : vG}  {post : Bool → vSt → Prop} (C : v_Cx X G cX9_readText RX9 3 (v_rm 5 148)) (D : v_Rx X G (v_Qz G post) (some .boolean))     : ∀ (S : vSt), p_X9_readText_75  post S  → VJ X G S 75 [(0, .ref (G.1 56))] [] := by
  intro S  h
  refine V_aload_n C 0 dX9_readText_75 rfl rfl ?_
  refine V_gi C 56 (by decide) (by decide) F_9_4 k_RX9_36 dX9_readText_76 ?_
  refine V_if_eq (tgt := 93) C dX9_readText_79 (by decide) (fun c => ?_) (fun c => ?_)
  · have h := h.1 c
    refine V_iconst (v := 1) C dX9_readText_93 (by decide) ?_
    refine V_goto (tgt := 98) C dX9_readText_94 (by decide) ?_
    exact V_zret1 C D dX9_readText_98 h
  · have h := h.2 c
    refine V_aload_n C 0 dX9_readText_82 rfl rfl ?_
    refine V_ga C 56 (by decide) (by decide) F_9_0 k_RX9_15 dX9_readText_83 ?_
    refine V_iconst (v := 2) C dX9_readText_86 (by decide) ?_
    refine V_callVz (As := [.int 2]) (rest := []) C (c_X6_blame (v_l X) G  _ _ h) 5 6 (by decide) (by decide) (by decide) rfl KV_X6_blame k_RX9_56 rfl rfl rfl (Nat.le_of_ble_eq_true rfl) ⟨Nat.le_of_ble_eq_true rfl, Nat.le_of_ble_eq_true rfl⟩ dX9_readText_87 (fun r24 S23 h => ?_)
    refine V_ifb_eq (tgt := 97) C dX9_readText_90 (by decide) (fun c => ?_) (fun c => ?_)
    · have h := h.1 c
      refine V_iconst (v := 0) C dX9_readText_97 (by decide) ?_
      exact V_zret0 C D dX9_readText_98 h
    · have h := h.2 c
      refine V_iconst (v := 1) C dX9_readText_93 (by decide) ?_
      refine V_goto (tgt := 98) C dX9_readText_94 (by decide) ?_
      exact V_zret1 C D dX9_readText_98 h
set_option maxHeartbeats 4000000 in
set_option maxRecDepth 100000 in
theorem q_X9_readText_62 {X : vX} {G : vG}  {post : Bool → vSt → Prop} (C : v_Cx X G cX9_readText RX9 3 (v_rm 5 148)) (D : v_Rx X G (v_Qz G post) (some .boolean))    {K22 : vSt → Int32 → Prop} (hK22 : ∀ S x1, K22 S x1 → VJ X G S 22 [(0, .ref (G.1 56)), (1, .int x1)] []) : ∀ (S : vSt) (x1 : Int32) (s0 : Bool), p_X9_readText_62 K22 post S x1 s0 → VJ X G S 62 [(0, .ref (G.1 56)), (1, .int x1)] [.int (v_b s0)] := by
  intro S x1 s0 h
  refine V_istore_n (lv' := [(0, .ref (G.1 56)), (1, .int x1), (2, .int (v_b s0))]) C [1, 2, 0] dX9_readText_62 rfl (by decide) rfl ?_
  refine V_iload_n C 2 dX9_readText_63 rfl rfl ?_
  refine V_ifb_ne (tgt := 69) C dX9_readText_64 (by decide) (fun c => ?_) (fun c => ?_)
  · have h := h.1 c
    obtain ⟨y27, ey27⟩ : ∃ z : Int32, z = x1 + 1 := ⟨_, rfl⟩
    have h := h y27 ey27
    refine V_iinc (lv' := [(0, .ref (G.1 56)), (1, .int y27), (2, .int (v_b s0))]) C 1 [1, 0, 2] y27 dX9_readText_69 rfl (by rw [ey27]; rfl) (by decide) rfl ?_
    refine V_goto (tgt := 22) C dX9_readText_72 (by decide) ?_
    refine V_loc (lv' := [(0, .ref (G.1 56)), (1, .int y27)]) [0, 1] rfl ?_
    exact hK22 _ _ h
  · have h := h.2 c
    refine V_iconst (v := 0) C dX9_readText_67 (by decide) ?_
    exact V_zret0 C D dX9_readText_68 h
set_option maxHeartbeats 4000000 in
set_option maxRecDepth 100000 in
theorem q_X9_readText_22 {X : vX} {G : vG}  {post : Bool → vSt → Prop} (C : v_Cx X G cX9_readText RX9 3 (v_rm 5 148)) (D : v_Rx X G (v_Qz G post) (some .boolean))     : ∀ (fu : Nat) (S : vSt) (x1 : Int32), p_X9_readText_22  post fu S x1 → VJ X G S 22 [(0, .ref (G.1 56)), (1, .int x1)] [] := by
  intro fu
  induction fu with
  | zero => intro S x1 h; exact absurd h id
  | succ fu ih =>
    intro S x1 h
    have hK22 := ih
    rw [e_X9_readText_22] at h
    refine V_iload_n C 1 dX9_readText_22 rfl rfl ?_
    refine V_sipush (v := 900) C dX9_readText_23 (by decide) ?_
    refine V_icmp_gt (tgt := 75) C dX9_readText_26 (by decide) (fun c => ?_) (fun c => ?_)
    · have h := h.1 c
      refine V_loc (lv' := [(0, .ref (G.1 56))]) [0] rfl ?_
      exact q_X9_readText_75 C D  _ h
    · have h := h.2 c
      refine V_aload_n C 0 dX9_readText_29 rfl rfl ?_
      refine V_ga C 56 (by decide) (by decide) F_9_0 k_RX9_15 dX9_readText_30 ?_
      refine V_gi C 5 (by decide) (by decide) F_6_7 k_RX9_42 dX9_readText_33 ?_
      refine V_if_eq (tgt := 75) C dX9_readText_36 (by decide) (fun c => ?_) (fun c => ?_)
      · have h := h.1 c
        refine V_loc (lv' := [(0, .ref (G.1 56))]) [0] rfl ?_
        exact q_X9_readText_75 C D  _ h
      · have h := h.2 c
        refine V_aload_n C 0 dX9_readText_39 rfl rfl ?_
        refine V_ga C 56 (by decide) (by decide) F_9_0 k_RX9_15 dX9_readText_40 ?_
        refine V_bipush (v := 20) C dX9_readText_43 (by decide) ?_
        refine V_callVz (As := [.int 20]) (rest := []) C (c_X6_isWord (v_l X) G  _ _ h) 5 6 (by decide) (by decide) (by decide) rfl KV_X6_isWord k_RX9_45 rfl rfl rfl (Nat.le_of_ble_eq_true rfl) ⟨Nat.le_of_ble_eq_true rfl, Nat.le_of_ble_eq_true rfl⟩ dX9_readText_45 (fun r24 S23 h => ?_)
        refine V_ifb_eq (tgt := 58) C dX9_readText_48 (by decide) (fun c => ?_) (fun c => ?_)
        · have h := h.1 c
          refine V_aload_n C 0 dX9_readText_58 rfl rfl ?_
          refine V_callVz (As := []) (rest := []) C (c_X9_readStep (v_l X) G  _ h) 56 9 (by decide) (by decide) (by decide) rfl KV_X9_readStep k_RX9_53 rfl rfl rfl (Nat.le_of_ble_eq_true rfl) ⟨Nat.le_of_ble_eq_true rfl, Nat.le_of_ble_eq_true rfl⟩ dX9_readText_59 (fun r26 S25 h => ?_)
          exact q_X9_readText_62 C D hK22 _ _ _ h
        · have h := h.2 c
          refine V_aload_n C 0 dX9_readText_51 rfl rfl ?_
          refine V_callVz (As := []) (rest := []) C (c_X9_readEnd (v_l X) G  _ h) 56 9 (by decide) (by decide) (by decide) rfl KV_X9_readEnd k_RX9_49 rfl rfl rfl (Nat.le_of_ble_eq_true rfl) ⟨Nat.le_of_ble_eq_true rfl, Nat.le_of_ble_eq_true rfl⟩ dX9_readText_52 (fun r28 S27 h => ?_)
          refine V_goto (tgt := 62) C dX9_readText_55 (by decide) ?_
          exact q_X9_readText_62 C D hK22 _ _ _ h
set_option maxHeartbeats 4000000 in
set_option maxRecDepth 100000 in
theorem c_X9_readText (l : Launch) (G : vG)    {S : vSt}  (post : Bool → vSt → Prop) (h : p_X9_readText   S  post) : Met l yX9_readText (v_ws yX9_readText cX9_readText 3 (some .boolean)) (v_rm 5 148) (v_Pc G [.ref (G.1 56)] S) (v_Qz G post) 0 0 (v_A G) := by
  refine v_start (by decide +kernel) (Nat.le_of_ble_eq_true rfl) (fun X hl C D => ?_)
  subst hl
  have C : v_Cx X G cX9_readText RX9 3 (v_rm 5 148) := C
  show VJ X G S 0 [(0, .ref (G.1 56))] []
  refine V_aload_n C 0 dX9_readText_0 rfl rfl ?_
  refine V_ga C 56 (by decide) (by decide) F_9_2 k_RX9_23 dX9_readText_1 ?_
  refine V_callVv (As := []) (rest := []) C (c_X8_clear (v_l X) G v_i32 _ h) 47 8 (by decide) (by decide) (by decide) rfl KV_X8_clear k_RX9_27 rfl rfl rfl (Nat.le_of_ble_eq_true rfl) ⟨Nat.le_of_ble_eq_true rfl, Nat.le_of_ble_eq_true rfl⟩ dX9_readText_4 (fun S20 h => ?_)
  refine V_aload_n C 0 dX9_readText_7 rfl rfl ?_
  refine V_ga C 56 (by decide) (by decide) F_9_2 k_RX9_23 dX9_readText_8 ?_
  refine V_iconst (v := 1) C dX9_readText_11 (by decide) ?_
  refine V_pz C 47 (by decide) (by decide) P_8_8 k_RX9_32 v_isb_1 dX9_readText_12 ?_
  refine V_topS (fun S21 eS21 => ?_)
  have h := h S21 eS21
  refine V_aload_n C 0 dX9_readText_15 rfl rfl ?_
  refine V_iconst (v := 0) C dX9_readText_16 (by decide) ?_
  refine V_pi C 56 (by decide) (by decide) P_9_4 k_RX9_36 dX9_readText_17 ?_
  refine V_topS (fun S22 eS22 => ?_)
  have h := h S22 eS22
  refine V_iconst (v := 0) C dX9_readText_20 (by decide) ?_
  refine V_istore_n (lv' := [(0, .ref (G.1 56)), (1, .int 0)]) C [1, 0] dX9_readText_21 rfl (by decide) rfl ?_
  obtain ⟨fu22, h⟩ := h
  exact q_X9_readText_22 C D  fu22 _ _ h
/-! HalfAccuser.top()J -/
theorem dX10_top_0 : decode cX10_top 0 = .ok ((.aload_n 0), 1) := by decide +kernel
theorem dX10_top_1 : decode cX10_top 1 = .ok ((.getfield 109), 3) := by decide +kernel
theorem dX10_top_4 : decode cX10_top 4 = .ok (.lreturn, 1) := by decide +kernel
def p_X10_top   (S : vSt)  (post : Int64 → vSt → Prop) : Prop := post (S.2 0 17) S
set_option maxHeartbeats 4000000 in
set_option maxRecDepth 100000 in
theorem c_X10_top (l : Launch) (G : vG)    {S : vSt}  (post : Int64 → vSt → Prop) (h : p_X10_top   S  post) : Met l yX10_top (v_ws yX10_top cX10_top 1 (some .long)) (v_rm 0 40) (v_Pc G [.ref (G.1 0)] S) (v_Ql G post) 0 0 (v_A G) := by
  refine v_start (by decide +kernel) (Nat.le_of_ble_eq_true rfl) (fun X hl C D => ?_)
  subst hl
  have C : v_Cx X G cX10_top RX10 1 (v_rm 0 40) := C
  show VJ X G S 0 [(0, .ref (G.1 0))] []
  refine V_aload_n C 0 dX10_top_0 rfl rfl ?_
  refine V_gl C 0 (by decide) (by decide) F_10_17 k_RX10_109 dX10_top_1 ?_
  exact V_lret C D dX10_top_4 h
/-! HalfAccuser.bottom()J -/
theorem dX10_bottom_0 : decode cX10_bottom 0 = .ok ((.aload_n 0), 1) := by decide +kernel
theorem dX10_bottom_1 : decode cX10_bottom 1 = .ok ((.getfield 102), 3) := by decide +kernel
theorem dX10_bottom_4 : decode cX10_bottom 4 = .ok (.lreturn, 1) := by decide +kernel
def p_X10_bottom   (S : vSt)  (post : Int64 → vSt → Prop) : Prop := post (S.2 0 18) S
set_option maxHeartbeats 4000000 in
set_option maxRecDepth 100000 in
theorem c_X10_bottom (l : Launch) (G : vG)    {S : vSt}  (post : Int64 → vSt → Prop) (h : p_X10_bottom   S  post) : Met l yX10_bottom (v_ws yX10_bottom cX10_bottom 1 (some .long)) (v_rm 0 40) (v_Pc G [.ref (G.1 0)] S) (v_Ql G post) 0 0 (v_A G) := by
  refine v_start (by decide +kernel) (Nat.le_of_ble_eq_true rfl) (fun X hl C D => ?_)
  subst hl
  have C : v_Cx X G cX10_bottom RX10 1 (v_rm 0 40) := C
  show VJ X G S 0 [(0, .ref (G.1 0))] []
  refine V_aload_n C 0 dX10_bottom_0 rfl rfl ?_
  refine V_gl C 0 (by decide) (by decide) F_10_18 k_RX10_102 dX10_bottom_1 ?_
  exact V_lret C D dX10_bottom_4 h
/-! HalfAccuser.feed(IIIII)I -/
theorem dX10_feed_0 : decode cX10_feed 0 = .ok ((.aload_n 0), 1) := by decide +kernel
theorem dX10_feed_1 : decode cX10_feed 1 = .ok ((.getfield 19), 3) := by decide +kernel
theorem dX10_feed_4 : decode cX10_feed 4 = .ok ((.invokevirtual 142), 3) := by decide +kernel
theorem dX10_feed_7 : decode cX10_feed 7 = .ok ((.ifCond .ne 5), 3) := by decide +kernel
theorem dX10_feed_10 : decode cX10_feed 10 = .ok ((.iconst (-1)), 1) := by decide +kernel
theorem dX10_feed_11 : decode cX10_feed 11 = .ok (.ireturn, 1) := by decide +kernel
theorem dX10_feed_12 : decode cX10_feed 12 = .ok ((.aload_n 0), 1) := by decide +kernel
theorem dX10_feed_13 : decode cX10_feed 13 = .ok ((.getfield 19), 3) := by decide +kernel
theorem dX10_feed_16 : decode cX10_feed 16 = .ok ((.iload_n 1), 1) := by decide +kernel
theorem dX10_feed_17 : decode cX10_feed 17 = .ok ((.invokevirtual 146), 3) := by decide +kernel
theorem dX10_feed_20 : decode cX10_feed 20 = .ok ((.aload_n 0), 1) := by decide +kernel
theorem dX10_feed_21 : decode cX10_feed 21 = .ok ((.getfield 19), 3) := by decide +kernel
theorem dX10_feed_24 : decode cX10_feed 24 = .ok ((.iload_n 2), 1) := by decide +kernel
theorem dX10_feed_25 : decode cX10_feed 25 = .ok ((.invokevirtual 146), 3) := by decide +kernel
theorem dX10_feed_28 : decode cX10_feed 28 = .ok ((.aload_n 0), 1) := by decide +kernel
theorem dX10_feed_29 : decode cX10_feed 29 = .ok ((.getfield 19), 3) := by decide +kernel
theorem dX10_feed_32 : decode cX10_feed 32 = .ok ((.iload_n 3), 1) := by decide +kernel
theorem dX10_feed_33 : decode cX10_feed 33 = .ok ((.invokevirtual 146), 3) := by decide +kernel
theorem dX10_feed_36 : decode cX10_feed 36 = .ok ((.aload_n 0), 1) := by decide +kernel
theorem dX10_feed_37 : decode cX10_feed 37 = .ok ((.getfield 19), 3) := by decide +kernel
theorem dX10_feed_40 : decode cX10_feed 40 = .ok ((.iload 4), 2) := by decide +kernel
theorem dX10_feed_42 : decode cX10_feed 42 = .ok ((.invokevirtual 146), 3) := by decide +kernel
theorem dX10_feed_45 : decode cX10_feed 45 = .ok ((.aload_n 0), 1) := by decide +kernel
theorem dX10_feed_46 : decode cX10_feed 46 = .ok ((.getfield 19), 3) := by decide +kernel
theorem dX10_feed_49 : decode cX10_feed 49 = .ok ((.iload 5), 2) := by decide +kernel
theorem dX10_feed_51 : decode cX10_feed 51 = .ok ((.invokevirtual 146), 3) := by decide +kernel
theorem dX10_feed_54 : decode cX10_feed 54 = .ok ((.aload_n 0), 1) := by decide +kernel
theorem dX10_feed_55 : decode cX10_feed 55 = .ok ((.getfield 19), 3) := by decide +kernel
theorem dX10_feed_58 : decode cX10_feed 58 = .ok ((.getfield 150), 3) := by decide +kernel
theorem dX10_feed_61 : decode cX10_feed 61 = .ok (.ireturn, 1) := by decide +kernel
def p_X10_feed   (S : vSt) (a1 : Int32) (a2 : Int32) (a3 : Int32) (a4 : Int32) (a5 : Int32) (post : Int32 → vSt → Prop) : Prop := p_X6_hasRoom  S  (fun r9 S8 => ((r9 = true → p_X6_add  S8 a1 (fun S10 => p_X6_add  S10 a2 (fun S11 => p_X6_add  S11 a3 (fun S12 => p_X6_add  S12 a4 (fun S13 => p_X6_add  S13 a5 (fun S14 => post (S14.1 5 1) S14)))))) ∧ (r9 = false → post (-1) S8)))
set_option maxHeartbeats 4000000 in
set_option maxRecDepth 100000 in
theorem c_X10_feed (l : Launch) (G : vG)    {S : vSt} (a1 : Int32) (a2 : Int32) (a3 : Int32) (a4 : Int32) (a5 : Int32) (post : Int32 → vSt → Prop) (h : p_X10_feed   S a1 a2 a3 a4 a5 post) : Met l yX10_feed (v_ws yX10_feed cX10_feed 6 (some .int)) (v_rm 1 62) (v_Pc G [.ref (G.1 0), .int a1, .int a2, .int a3, .int a4, .int a5] S) (v_Qi G post) 0 0 (v_A G) := by
  refine v_start (by decide +kernel) (Nat.le_of_ble_eq_true rfl) (fun X hl C D => ?_)
  subst hl
  have C : v_Cx X G cX10_feed RX10 6 (v_rm 1 62) := C
  show VJ X G S 0 [(0, .ref (G.1 0)), (1, .int a1), (2, .int a2), (3, .int a3), (4, .int a4), (5, .int a5)] []
  refine V_aload_n C 0 dX10_feed_0 rfl rfl ?_
  refine V_ga C 0 (by decide) (by decide) F_10_1 k_RX10_19 dX10_feed_1 ?_
  refine V_callVz (As := []) (rest := []) C (c_X6_hasRoom (v_l X) G  _ h) 5 6 (by decide) (by decide) (by decide) rfl KV_X6_hasRoom k_RX10_142 rfl rfl rfl (Nat.le_of_ble_eq_true rfl) ⟨Nat.le_of_ble_eq_true rfl, Nat.le_of_ble_eq_true rfl⟩ dX10_feed_4 (fun r9 S8 h => ?_)
  refine V_ifb_ne (tgt := 12) C dX10_feed_7 (by decide) (fun c => ?_) (fun c => ?_)
  · have h := h.1 c
    refine V_aload_n C 0 dX10_feed_12 rfl rfl ?_
    refine V_ga C 0 (by decide) (by decide) F_10_1 k_RX10_19 dX10_feed_13 ?_
    refine V_iload_n C 1 dX10_feed_16 rfl rfl ?_
    refine V_callVv (As := [.int a1]) (rest := []) C (c_X6_add (v_l X) G  _ _ h) 5 6 (by decide) (by decide) (by decide) rfl KV_X6_add k_RX10_146 rfl rfl rfl (Nat.le_of_ble_eq_true rfl) ⟨Nat.le_of_ble_eq_true rfl, Nat.le_of_ble_eq_true rfl⟩ dX10_feed_17 (fun S10 h => ?_)
    refine V_aload_n C 0 dX10_feed_20 rfl rfl ?_
    refine V_ga C 0 (by decide) (by decide) F_10_1 k_RX10_19 dX10_feed_21 ?_
    refine V_iload_n C 2 dX10_feed_24 rfl rfl ?_
    refine V_callVv (As := [.int a2]) (rest := []) C (c_X6_add (v_l X) G  _ _ h) 5 6 (by decide) (by decide) (by decide) rfl KV_X6_add k_RX10_146 rfl rfl rfl (Nat.le_of_ble_eq_true rfl) ⟨Nat.le_of_ble_eq_true rfl, Nat.le_of_ble_eq_true rfl⟩ dX10_feed_25 (fun S11 h => ?_)
    refine V_aload_n C 0 dX10_feed_28 rfl rfl ?_
    refine V_ga C 0 (by decide) (by decide) F_10_1 k_RX10_19 dX10_feed_29 ?_
    refine V_iload_n C 3 dX10_feed_32 rfl rfl ?_
    refine V_callVv (As := [.int a3]) (rest := []) C (c_X6_add (v_l X) G  _ _ h) 5 6 (by decide) (by decide) (by decide) rfl KV_X6_add k_RX10_146 rfl rfl rfl (Nat.le_of_ble_eq_true rfl) ⟨Nat.le_of_ble_eq_true rfl, Nat.le_of_ble_eq_true rfl⟩ dX10_feed_33 (fun S12 h => ?_)
    refine V_aload_n C 0 dX10_feed_36 rfl rfl ?_
    refine V_ga C 0 (by decide) (by decide) F_10_1 k_RX10_19 dX10_feed_37 ?_
    refine V_iload C 4 dX10_feed_40 rfl ?_
    refine V_callVv (As := [.int a4]) (rest := []) C (c_X6_add (v_l X) G  _ _ h) 5 6 (by decide) (by decide) (by decide) rfl KV_X6_add k_RX10_146 rfl rfl rfl (Nat.le_of_ble_eq_true rfl) ⟨Nat.le_of_ble_eq_true rfl, Nat.le_of_ble_eq_true rfl⟩ dX10_feed_42 (fun S13 h => ?_)
    refine V_aload_n C 0 dX10_feed_45 rfl rfl ?_
    refine V_ga C 0 (by decide) (by decide) F_10_1 k_RX10_19 dX10_feed_46 ?_
    refine V_iload C 5 dX10_feed_49 rfl ?_
    refine V_callVv (As := [.int a5]) (rest := []) C (c_X6_add (v_l X) G  _ _ h) 5 6 (by decide) (by decide) (by decide) rfl KV_X6_add k_RX10_146 rfl rfl rfl (Nat.le_of_ble_eq_true rfl) ⟨Nat.le_of_ble_eq_true rfl, Nat.le_of_ble_eq_true rfl⟩ dX10_feed_51 (fun S14 h => ?_)
    refine V_aload_n C 0 dX10_feed_54 rfl rfl ?_
    refine V_ga C 0 (by decide) (by decide) F_10_1 k_RX10_19 dX10_feed_55 ?_
    refine V_gi C 5 (by decide) (by decide) F_6_1 k_RX10_150 dX10_feed_58 ?_
    exact V_iret C D dX10_feed_61 h
  · have h := h.2 c
    refine V_iconst (v := (-1)) C dX10_feed_10 (by decide) ?_
    exact V_iret C D dX10_feed_11 h
/-! HalfAccuser.refused(I)I -/
theorem dX10_refused_0 : decode cX10_refused 0 = .ok ((.aload_n 0), 1) := by decide +kernel
theorem dX10_refused_1 : decode cX10_refused 1 = .ok ((.iload_n 1), 1) := by decide +kernel
theorem dX10_refused_2 : decode cX10_refused 2 = .ok ((.putfield 106), 3) := by decide +kernel
theorem dX10_refused_5 : decode cX10_refused 5 = .ok ((.iconst (-1)), 1) := by decide +kernel
theorem dX10_refused_6 : decode cX10_refused 6 = .ok (.ireturn, 1) := by decide +kernel
def p_X10_refused   (S : vSt) (a1 : Int32) (post : Int32 → vSt → Prop) : Prop := ∀ S2, S2 = v_si S 0 14 a1 → post (-1) S2
set_option maxHeartbeats 4000000 in
set_option maxRecDepth 100000 in
theorem c_X10_refused (l : Launch) (G : vG)    {S : vSt} (a1 : Int32) (post : Int32 → vSt → Prop) (h : p_X10_refused   S a1 post) : Met l yX10_refused (v_ws yX10_refused cX10_refused 2 (some .int)) (v_rm 0 40) (v_Pc G [.ref (G.1 0), .int a1] S) (v_Qi G post) 0 0 (v_A G) := by
  refine v_start (by decide +kernel) (Nat.le_of_ble_eq_true rfl) (fun X hl C D => ?_)
  subst hl
  have C : v_Cx X G cX10_refused RX10 2 (v_rm 0 40) := C
  show VJ X G S 0 [(0, .ref (G.1 0)), (1, .int a1)] []
  refine V_aload_n C 0 dX10_refused_0 rfl rfl ?_
  refine V_iload_n C 1 dX10_refused_1 rfl rfl ?_
  refine V_pi C 0 (by decide) (by decide) P_10_14 k_RX10_106 dX10_refused_2 ?_
  refine V_topS (fun S2 eS2 => ?_)
  have h := h S2 eS2
  refine V_iconst (v := (-1)) C dX10_refused_5 (by decide) ?_
  exact V_iret C D dX10_refused_6 h
/-! HalfAccuser.tellFault(Z)Z -/
theorem dX10_tellFault_0 : decode cX10_tellFault 0 = .ok ((.aload_n 0), 1) := by decide +kernel
theorem dX10_tellFault_1 : decode cX10_tellFault 1 = .ok ((.iload_n 1), 1) := by decide +kernel
theorem dX10_tellFault_2 : decode cX10_tellFault 2 = .ok ((.ifCond .eq 7), 3) := by decide +kernel
theorem dX10_tellFault_5 : decode cX10_tellFault 5 = .ok ((.iconst 0), 1) := by decide +kernel
theorem dX10_tellFault_6 : decode cX10_tellFault 6 = .ok ((.goto 10), 3) := by decide +kernel
theorem dX10_tellFault_9 : decode cX10_tellFault 9 = .ok ((.aload_n 0), 1) := by decide +kernel
theorem dX10_tellFault_10 : decode cX10_tellFault 10 = .ok ((.getfield 19), 3) := by decide +kernel
theorem dX10_tellFault_13 : decode cX10_tellFault 13 = .ok ((.getfield 446), 3) := by decide +kernel
theorem dX10_tellFault_16 : decode cX10_tellFault 16 = .ok ((.putfield 95), 3) := by decide +kernel
theorem dX10_tellFault_19 : decode cX10_tellFault 19 = .ok ((.aload_n 0), 1) := by decide +kernel
theorem dX10_tellFault_20 : decode cX10_tellFault 20 = .ok ((.iload_n 1), 1) := by decide +kernel
theorem dX10_tellFault_21 : decode cX10_tellFault 21 = .ok ((.ifCond .eq 7), 3) := by decide +kernel
theorem dX10_tellFault_24 : decode cX10_tellFault 24 = .ok ((.iconst (-1)), 1) := by decide +kernel
theorem dX10_tellFault_25 : decode cX10_tellFault 25 = .ok ((.goto 10), 3) := by decide +kernel
theorem dX10_tellFault_28 : decode cX10_tellFault 28 = .ok ((.aload_n 0), 1) := by decide +kernel
theorem dX10_tellFault_29 : decode cX10_tellFault 29 = .ok ((.getfield 19), 3) := by decide +kernel
theorem dX10_tellFault_32 : decode cX10_tellFault 32 = .ok ((.getfield 449), 3) := by decide +kernel
theorem dX10_tellFault_35 : decode cX10_tellFault 35 = .ok ((.putfield 99), 3) := by decide +kernel
theorem dX10_tellFault_38 : decode cX10_tellFault 38 = .ok ((.aload_n 0), 1) := by decide +kernel
theorem dX10_tellFault_39 : decode cX10_tellFault 39 = .ok ((.getfield 19), 3) := by decide +kernel
theorem dX10_tellFault_42 : decode cX10_tellFault 42 = .ok ((.iconst 0), 1) := by decide +kernel
theorem dX10_tellFault_43 : decode cX10_tellFault 43 = .ok ((.putfield 150), 3) := by decide +kernel
theorem dX10_tellFault_46 : decode cX10_tellFault 46 = .ok ((.iload_n 1), 1) := by decide +kernel
theorem dX10_tellFault_47 : decode cX10_tellFault 47 = .ok (.ireturn, 1) := by decide +kernel
def p_X10_tellFault_35  (a1 : Bool)   (post : Bool → vSt → Prop) (S : vSt) (s0 : Int32) : Prop := ∀ S5, S5 = v_si S 0 16 s0 → ∀ S6, S6 = v_si S5 5 1 0 → post a1 S6
def p_X10_tellFault_16  (a1 : Bool)   (post : Bool → vSt → Prop) (S : vSt) (s0 : Int32) : Prop := ∀ S4, S4 = v_si S 0 15 s0 → ((a1 = false → p_X10_tellFault_35 a1 post S4 (S4.1 5 12)) ∧ (a1 = true → p_X10_tellFault_35 a1 post S4 (-1)))
def p_X10_tellFault   (S : vSt) (a1 : Bool) (post : Bool → vSt → Prop) : Prop := ((a1 = false → p_X10_tellFault_16 a1 post S (S.1 5 11)) ∧ (a1 = true → p_X10_tellFault_16 a1 post S 0))
set_option maxHeartbeats 4000000 in
set_option maxRecDepth 100000 in
theorem q_X10_tellFault_35 {X : vX} {G : vG}  {post : Bool → vSt → Prop} (C : v_Cx X G cX10_tellFault RX10 2 (v_rm 0 40)) (D : v_Rx X G (v_Qz G post) (some .boolean))  {a1 : Bool}   : ∀ (S : vSt) (s0 : Int32), p_X10_tellFault_35 a1 post S s0 → VJ X G S 35 [(0, .ref (G.1 0)), (1, .int (v_b a1))] [.int s0, .ref (G.1 0)] := by
  intro S s0 h
  refine V_pi C 0 (by decide) (by decide) P_10_16 k_RX10_99 dX10_tellFault_35 ?_
  refine V_topS (fun S5 eS5 => ?_)
  have h := h S5 eS5
  refine V_aload_n C 0 dX10_tellFault_38 rfl rfl ?_
  refine V_ga C 0 (by decide) (by decide) F_10_1 k_RX10_19 dX10_tellFault_39 ?_
  refine V_iconst (v := 0) C dX10_tellFault_42 (by decide) ?_
  refine V_pi C 5 (by decide) (by decide) P_6_1 k_RX10_150 dX10_tellFault_43 ?_
  refine V_topS (fun S6 eS6 => ?_)
  have h := h S6 eS6
  refine V_iload_n C 1 dX10_tellFault_46 rfl rfl ?_
  exact V_zret C D dX10_tellFault_47 h
set_option maxHeartbeats 4000000 in
set_option maxRecDepth 100000 in
theorem q_X10_tellFault_16 {X : vX} {G : vG}  {post : Bool → vSt → Prop} (C : v_Cx X G cX10_tellFault RX10 2 (v_rm 0 40)) (D : v_Rx X G (v_Qz G post) (some .boolean))  {a1 : Bool}   : ∀ (S : vSt) (s0 : Int32), p_X10_tellFault_16 a1 post S s0 → VJ X G S 16 [(0, .ref (G.1 0)), (1, .int (v_b a1))] [.int s0, .ref (G.1 0)] := by
  intro S s0 h
  refine V_pi C 0 (by decide) (by decide) P_10_15 k_RX10_95 dX10_tellFault_16 ?_
  refine V_topS (fun S4 eS4 => ?_)
  have h := h S4 eS4
  refine V_aload_n C 0 dX10_tellFault_19 rfl rfl ?_
  refine V_iload_n C 1 dX10_tellFault_20 rfl rfl ?_
  refine V_ifb_eq (tgt := 28) C dX10_tellFault_21 (by decide) (fun c => ?_) (fun c => ?_)
  · have h := h.1 c
    refine V_aload_n C 0 dX10_tellFault_28 rfl rfl ?_
    refine V_ga C 0 (by decide) (by decide) F_10_1 k_RX10_19 dX10_tellFault_29 ?_
    refine V_gi C 5 (by decide) (by decide) F_6_12 k_RX10_449 dX10_tellFault_32 ?_
    exact q_X10_tellFault_35 C D  _ _ h
  · have h := h.2 c
    refine V_iconst (v := (-1)) C dX10_tellFault_24 (by decide) ?_
    refine V_goto (tgt := 35) C dX10_tellFault_25 (by decide) ?_
    exact q_X10_tellFault_35 C D  _ _ h
set_option maxHeartbeats 4000000 in
set_option maxRecDepth 100000 in
theorem c_X10_tellFault (l : Launch) (G : vG)    {S : vSt} (a1 : Bool) (post : Bool → vSt → Prop) (h : p_X10_tellFault   S a1 post) : Met l yX10_tellFault (v_ws yX10_tellFault cX10_tellFault 2 (some .boolean)) (v_rm 0 40) (v_Pc G [.ref (G.1 0), .int (v_b a1)] S) (v_Qz G post) 0 0 (v_A G) := by
  refine v_start (by decide +kernel) (Nat.le_of_ble_eq_true rfl) (fun X hl C D => ?_)
  subst hl
  have C : v_Cx X G cX10_tellFault RX10 2 (v_rm 0 40) := C
  show VJ X G S 0 [(0, .ref (G.1 0)), (1, .int (v_b a1))] []
  refine V_aload_n C 0 dX10_tellFault_0 rfl rfl ?_
  refine V_iload_n C 1 dX10_tellFault_1 rfl rfl ?_
  refine V_ifb_eq (tgt := 9) C dX10_tellFault_2 (by decide) (fun c => ?_) (fun c => ?_)
  · have h := h.1 c
    refine V_aload_n C 0 dX10_tellFault_9 rfl rfl ?_
    refine V_ga C 0 (by decide) (by decide) F_10_1 k_RX10_19 dX10_tellFault_10 ?_
    refine V_gi C 5 (by decide) (by decide) F_6_11 k_RX10_446 dX10_tellFault_13 ?_
    exact q_X10_tellFault_16 C D  _ _ h
  · have h := h.2 c
    refine V_iconst (v := 0) C dX10_tellFault_5 (by decide) ?_
    refine V_goto (tgt := 16) C dX10_tellFault_6 (by decide) ?_
    exact q_X10_tellFault_16 C D  _ _ h
/-! HalfAccuser.told(I)I -/
theorem dX10_told_0 : decode cX10_told 0 = .ok ((.aload_n 0), 1) := by decide +kernel
theorem dX10_told_1 : decode cX10_told 1 = .ok ((.iconst 0), 1) := by decide +kernel
theorem dX10_told_2 : decode cX10_told 2 = .ok ((.putfield 106), 3) := by decide +kernel
theorem dX10_told_5 : decode cX10_told 5 = .ok ((.iload_n 1), 1) := by decide +kernel
theorem dX10_told_6 : decode cX10_told 6 = .ok (.ireturn, 1) := by decide +kernel
def p_X10_told   (S : vSt) (a1 : Int32) (post : Int32 → vSt → Prop) : Prop := ∀ S2, S2 = v_si S 0 14 0 → post a1 S2
set_option maxHeartbeats 4000000 in
set_option maxRecDepth 100000 in
theorem c_X10_told (l : Launch) (G : vG)    {S : vSt} (a1 : Int32) (post : Int32 → vSt → Prop) (h : p_X10_told   S a1 post) : Met l yX10_told (v_ws yX10_told cX10_told 2 (some .int)) (v_rm 0 40) (v_Pc G [.ref (G.1 0), .int a1] S) (v_Qi G post) 0 0 (v_A G) := by
  refine v_start (by decide +kernel) (Nat.le_of_ble_eq_true rfl) (fun X hl C D => ?_)
  subst hl
  have C : v_Cx X G cX10_told RX10 2 (v_rm 0 40) := C
  show VJ X G S 0 [(0, .ref (G.1 0)), (1, .int a1)] []
  refine V_aload_n C 0 dX10_told_0 rfl rfl ?_
  refine V_iconst (v := 0) C dX10_told_1 (by decide) ?_
  refine V_pi C 0 (by decide) (by decide) P_10_14 k_RX10_106 dX10_told_2 ?_
  refine V_topS (fun S2 eS2 => ?_)
  have h := h S2 eS2
  refine V_iload_n C 1 dX10_told_5 rfl rfl ?_
  exact V_iret C D dX10_told_6 h
/-! HalfAccuser.city(I)I -/
theorem dX10_city_0 : decode cX10_city 0 = .ok ((.iload_n 1), 1) := by decide +kernel
theorem dX10_city_1 : decode cX10_city 1 = .ok ((.ifCond .lt 14), 3) := by decide +kernel
theorem dX10_city_4 : decode cX10_city 4 = .ok ((.iload_n 1), 1) := by decide +kernel
theorem dX10_city_5 : decode cX10_city 5 = .ok ((.aload_n 0), 1) := by decide +kernel
theorem dX10_city_6 : decode cX10_city 6 = .ok ((.getfield 19), 3) := by decide +kernel
theorem dX10_city_9 : decode cX10_city 9 = .ok ((.getfield 150), 3) := by decide +kernel
theorem dX10_city_12 : decode cX10_city 12 = .ok ((.if_icmp .le 9), 3) := by decide +kernel
theorem dX10_city_15 : decode cX10_city 15 = .ok ((.aload_n 0), 1) := by decide +kernel
theorem dX10_city_16 : decode cX10_city 16 = .ok ((.iconst 5), 1) := by decide +kernel
theorem dX10_city_17 : decode cX10_city 17 = .ok ((.invokevirtual 153), 3) := by decide +kernel
theorem dX10_city_20 : decode cX10_city 20 = .ok (.ireturn, 1) := by decide +kernel
theorem dX10_city_21 : decode cX10_city 21 = .ok ((.aload_n 0), 1) := by decide +kernel
theorem dX10_city_22 : decode cX10_city 22 = .ok ((.getfield 19), 3) := by decide +kernel
theorem dX10_city_25 : decode cX10_city 25 = .ok ((.iload_n 1), 1) := by decide +kernel
theorem dX10_city_26 : decode cX10_city 26 = .ok ((.invokevirtual 157), 3) := by decide +kernel
theorem dX10_city_29 : decode cX10_city 29 = .ok ((.aload_n 0), 1) := by decide +kernel
theorem dX10_city_30 : decode cX10_city 30 = .ok ((.aload_n 0), 1) := by decide +kernel
theorem dX10_city_31 : decode cX10_city 31 = .ok ((.getfield 42), 3) := by decide +kernel
theorem dX10_city_34 : decode cX10_city 34 = .ok ((.invokevirtual 160), 3) := by decide +kernel
theorem dX10_city_37 : decode cX10_city 37 = .ok ((.invokevirtual 163), 3) := by decide +kernel
theorem dX10_city_40 : decode cX10_city 40 = .ok ((.ifCond .ne 10), 3) := by decide +kernel
theorem dX10_city_43 : decode cX10_city 43 = .ok ((.aload_n 0), 1) := by decide +kernel
theorem dX10_city_44 : decode cX10_city 44 = .ok ((.bipush 10), 2) := by decide +kernel
theorem dX10_city_46 : decode cX10_city 46 = .ok ((.invokevirtual 153), 3) := by decide +kernel
theorem dX10_city_49 : decode cX10_city 49 = .ok (.ireturn, 1) := by decide +kernel
theorem dX10_city_50 : decode cX10_city 50 = .ok ((.aload_n 0), 1) := by decide +kernel
theorem dX10_city_51 : decode cX10_city 51 = .ok ((.getfield 26), 3) := by decide +kernel
theorem dX10_city_54 : decode cX10_city 54 = .ok ((.aload_n 0), 1) := by decide +kernel
theorem dX10_city_55 : decode cX10_city 55 = .ok ((.getfield 30), 3) := by decide +kernel
theorem dX10_city_58 : decode cX10_city 58 = .ok ((.invokevirtual 167), 3) := by decide +kernel
theorem dX10_city_61 : decode cX10_city 61 = .ok ((.aload_n 0), 1) := by decide +kernel
theorem dX10_city_62 : decode cX10_city 62 = .ok ((.aload_n 0), 1) := by decide +kernel
theorem dX10_city_63 : decode cX10_city 63 = .ok ((.getfield 26), 3) := by decide +kernel
theorem dX10_city_66 : decode cX10_city 66 = .ok ((.getfield 170), 3) := by decide +kernel
theorem dX10_city_69 : decode cX10_city 69 = .ok ((.invokevirtual 173), 3) := by decide +kernel
theorem dX10_city_72 : decode cX10_city 72 = .ok (.ireturn, 1) := by decide +kernel
def p_X10_city_15  (a1 : Int32)   (post : Int32 → vSt → Prop) (S : vSt)  : Prop := p_X10_refused  S 5 (fun r14 S13 => post r14 S13)
def p_X10_city   (S : vSt) (a1 : Int32) (post : Int32 → vSt → Prop) : Prop := ((a1 < 0 → p_X10_city_15 a1 post S ) ∧ (¬ a1 < 0 → ((a1 ≤ (S.1 5 1) → p_X6_split  S a1 (fun S13 => p_X1_readText  S13  (fun r15 S14 => p_X10_tellFault  S14 r15 (fun r17 S16 => ((r17 = true → p_X0_copyFrom 10 32 S16  (fun S18 => p_X10_told  S18 (S18.1 10 16) (fun r20 S19 => post r20 S19))) ∧ (r17 = false → p_X10_refused  S16 10 (fun r22 S21 => post r22 S21))))))) ∧ (¬ a1 ≤ (S.1 5 1) → p_X10_city_15 a1 post S ))))
set_option maxHeartbeats 4000000 in
set_option maxRecDepth 100000 in
theorem q_X10_city_15 {X : vX} {G : vG}  {post : Int32 → vSt → Prop} (C : v_Cx X G cX10_city RX10 2 (v_rm 7 295)) (D : v_Rx X G (v_Qi G post) (some .int))  {a1 : Int32}   : ∀ (S : vSt), p_X10_city_15 a1 post S  → VJ X G S 15 [(0, .ref (G.1 0))] [] := by
  intro S  h
  refine V_aload_n C 0 dX10_city_15 rfl rfl ?_
  refine V_iconst (v := 5) C dX10_city_16 (by decide) ?_
  refine V_callVi (As := [.int 5]) (rest := []) C (c_X10_refused (v_l X) G  _ _ h) 0 10 (by decide) (by decide) (by decide) rfl KV_X10_refused k_RX10_153 rfl rfl rfl (Nat.le_of_ble_eq_true rfl) ⟨Nat.le_of_ble_eq_true rfl, Nat.le_of_ble_eq_true rfl⟩ dX10_city_17 (fun r14 S13 h => ?_)
  exact V_iret C D dX10_city_20 h
set_option maxHeartbeats 4000000 in
set_option maxRecDepth 100000 in
theorem c_X10_city (l : Launch) (G : vG)    {S : vSt} (a1 : Int32) (post : Int32 → vSt → Prop) (h : p_X10_city   S a1 post) : Met l yX10_city (v_ws yX10_city cX10_city 2 (some .int)) (v_rm 7 295) (v_Pc G [.ref (G.1 0), .int a1] S) (v_Qi G post) 0 0 (v_A G) := by
  refine v_start (by decide +kernel) (Nat.le_of_ble_eq_true rfl) (fun X hl C D => ?_)
  subst hl
  have C : v_Cx X G cX10_city RX10 2 (v_rm 7 295) := C
  show VJ X G S 0 [(0, .ref (G.1 0)), (1, .int a1)] []
  refine V_iload_n C 1 dX10_city_0 rfl rfl ?_
  refine V_if_lt (tgt := 15) C dX10_city_1 (by decide) (fun c => ?_) (fun c => ?_)
  · have h := h.1 c
    refine V_loc (lv' := [(0, .ref (G.1 0))]) [0] rfl ?_
    exact q_X10_city_15 C D  _ h
  · have h := h.2 c
    refine V_iload_n C 1 dX10_city_4 rfl rfl ?_
    refine V_aload_n C 0 dX10_city_5 rfl rfl ?_
    refine V_ga C 0 (by decide) (by decide) F_10_1 k_RX10_19 dX10_city_6 ?_
    refine V_gi C 5 (by decide) (by decide) F_6_1 k_RX10_150 dX10_city_9 ?_
    refine V_icmp_le (tgt := 21) C dX10_city_12 (by decide) (fun c => ?_) (fun c => ?_)
    · have h := h.1 c
      refine V_aload_n C 0 dX10_city_21 rfl rfl ?_
      refine V_ga C 0 (by decide) (by decide) F_10_1 k_RX10_19 dX10_city_22 ?_
      refine V_iload_n C 1 dX10_city_25 rfl rfl ?_
      refine V_callVv (As := [.int a1]) (rest := []) C (c_X6_split (v_l X) G  _ _ h) 5 6 (by decide) (by decide) (by decide) rfl KV_X6_split k_RX10_157 rfl rfl rfl (Nat.le_of_ble_eq_true rfl) ⟨Nat.le_of_ble_eq_true rfl, Nat.le_of_ble_eq_true rfl⟩ dX10_city_26 (fun S13 h => ?_)
      refine V_aload_n C 0 dX10_city_29 rfl rfl ?_
      refine V_aload_n C 0 dX10_city_30 rfl rfl ?_
      refine V_ga C 0 (by decide) (by decide) F_10_5 k_RX10_42 dX10_city_31 ?_
      refine V_callVz (As := []) (rest := [.ref (G.1 0)]) C (c_X1_readText (v_l X) G  _ h) 55 1 (by decide) (by decide) (by decide) rfl KV_X1_readText k_RX10_160 rfl rfl rfl (Nat.le_of_ble_eq_true rfl) ⟨Nat.le_of_ble_eq_true rfl, Nat.le_of_ble_eq_true rfl⟩ dX10_city_34 (fun r15 S14 h => ?_)
      refine V_callVz (As := [.int (v_b r15)]) (rest := []) C (c_X10_tellFault (v_l X) G  _ _ h) 0 10 (by decide) (by decide) (by decide) rfl KV_X10_tellFault k_RX10_163 rfl rfl rfl (Nat.le_of_ble_eq_true rfl) ⟨Nat.le_of_ble_eq_true rfl, Nat.le_of_ble_eq_true rfl⟩ dX10_city_37 (fun r17 S16 h => ?_)
      refine V_ifb_ne (tgt := 50) C dX10_city_40 (by decide) (fun c => ?_) (fun c => ?_)
      · have h := h.1 c
        refine V_aload_n C 0 dX10_city_50 rfl rfl ?_
        refine V_ga C 0 (by decide) (by decide) F_10_2 k_RX10_26 dX10_city_51 ?_
        refine V_aload_n C 0 dX10_city_54 rfl rfl ?_
        refine V_ga C 0 (by decide) (by decide) F_10_3 k_RX10_30 dX10_city_55 ?_
        refine V_callVv (As := [.ref (G.1 32)]) (rest := []) C (c_X0_copyFrom (v_l X) G v_i10 v_i32 _ h) 10 0 (by decide) (by decide) (by decide) rfl KV_X0_copyFrom k_RX10_167 rfl rfl rfl (Nat.le_of_ble_eq_true rfl) ⟨Nat.le_of_ble_eq_true rfl, Nat.le_of_ble_eq_true rfl⟩ dX10_city_58 (fun S18 h => ?_)
        refine V_aload_n C 0 dX10_city_61 rfl rfl ?_
        refine V_aload_n C 0 dX10_city_62 rfl rfl ?_
        refine V_ga C 0 (by decide) (by decide) F_10_2 k_RX10_26 dX10_city_63 ?_
        refine V_gi C 10 (by decide) (by decide) F_0_16 k_RX10_170 dX10_city_66 ?_
        refine V_callVi (As := [.int (S18.1 10 16)]) (rest := []) C (c_X10_told (v_l X) G  _ _ h) 0 10 (by decide) (by decide) (by decide) rfl KV_X10_told k_RX10_173 rfl rfl rfl (Nat.le_of_ble_eq_true rfl) ⟨Nat.le_of_ble_eq_true rfl, Nat.le_of_ble_eq_true rfl⟩ dX10_city_69 (fun r20 S19 h => ?_)
        exact V_iret C D dX10_city_72 h
      · have h := h.2 c
        refine V_aload_n C 0 dX10_city_43 rfl rfl ?_
        refine V_bipush (v := 10) C dX10_city_44 (by decide) ?_
        refine V_callVi (As := [.int 10]) (rest := []) C (c_X10_refused (v_l X) G  _ _ h) 0 10 (by decide) (by decide) (by decide) rfl KV_X10_refused k_RX10_153 rfl rfl rfl (Nat.le_of_ble_eq_true rfl) ⟨Nat.le_of_ble_eq_true rfl, Nat.le_of_ble_eq_true rfl⟩ dX10_city_46 (fun r22 S21 h => ?_)
        exact V_iret C D dX10_city_49 h
    · have h := h.2 c
      refine V_loc (lv' := [(0, .ref (G.1 0))]) [0] rfl ?_
      exact q_X10_city_15 C D  _ h
/-! HalfAccuser.years(I)I -/
theorem dX10_years_0 : decode cX10_years 0 = .ok ((.iload_n 1), 1) := by decide +kernel
theorem dX10_years_1 : decode cX10_years 1 = .ok ((.ifCond .lt 21), 3) := by decide +kernel
theorem dX10_years_4 : decode cX10_years 4 = .ok ((.iload_n 1), 1) := by decide +kernel
theorem dX10_years_5 : decode cX10_years 5 = .ok ((.aload_n 0), 1) := by decide +kernel
theorem dX10_years_6 : decode cX10_years 6 = .ok ((.getfield 19), 3) := by decide +kernel
theorem dX10_years_9 : decode cX10_years 9 = .ok ((.getfield 150), 3) := by decide +kernel
theorem dX10_years_12 : decode cX10_years 12 = .ok ((.if_icmp .gt 10), 3) := by decide +kernel
theorem dX10_years_15 : decode cX10_years 15 = .ok ((.iload_n 1), 1) := by decide +kernel
theorem dX10_years_16 : decode cX10_years 16 = .ok ((.sipush 300), 3) := by decide +kernel
theorem dX10_years_19 : decode cX10_years 19 = .ok ((.if_icmp .le 9), 3) := by decide +kernel
theorem dX10_years_22 : decode cX10_years 22 = .ok ((.aload_n 0), 1) := by decide +kernel
theorem dX10_years_23 : decode cX10_years 23 = .ok ((.iconst 5), 1) := by decide +kernel
theorem dX10_years_24 : decode cX10_years 24 = .ok ((.invokevirtual 153), 3) := by decide +kernel
theorem dX10_years_27 : decode cX10_years 27 = .ok (.ireturn, 1) := by decide +kernel
theorem dX10_years_28 : decode cX10_years 28 = .ok ((.aload_n 0), 1) := by decide +kernel
theorem dX10_years_29 : decode cX10_years 29 = .ok ((.getfield 19), 3) := by decide +kernel
theorem dX10_years_32 : decode cX10_years 32 = .ok ((.iload_n 1), 1) := by decide +kernel
theorem dX10_years_33 : decode cX10_years 33 = .ok ((.invokevirtual 157), 3) := by decide +kernel
theorem dX10_years_36 : decode cX10_years 36 = .ok ((.aload_n 0), 1) := by decide +kernel
theorem dX10_years_37 : decode cX10_years 37 = .ok ((.aload_n 0), 1) := by decide +kernel
theorem dX10_years_38 : decode cX10_years 38 = .ok ((.getfield 55), 3) := by decide +kernel
theorem dX10_years_41 : decode cX10_years 41 = .ok ((.invokevirtual 176), 3) := by decide +kernel
theorem dX10_years_44 : decode cX10_years 44 = .ok ((.invokevirtual 163), 3) := by decide +kernel
theorem dX10_years_47 : decode cX10_years 47 = .ok ((.ifCond .ne 10), 3) := by decide +kernel
theorem dX10_years_50 : decode cX10_years 50 = .ok ((.aload_n 0), 1) := by decide +kernel
theorem dX10_years_51 : decode cX10_years 51 = .ok ((.bipush 10), 2) := by decide +kernel
theorem dX10_years_53 : decode cX10_years 53 = .ok ((.invokevirtual 153), 3) := by decide +kernel
theorem dX10_years_56 : decode cX10_years 56 = .ok (.ireturn, 1) := by decide +kernel
theorem dX10_years_57 : decode cX10_years 57 = .ok ((.aload_n 0), 1) := by decide +kernel
theorem dX10_years_58 : decode cX10_years 58 = .ok ((.getfield 26), 3) := by decide +kernel
theorem dX10_years_61 : decode cX10_years 61 = .ok ((.getfield 48), 3) := by decide +kernel
theorem dX10_years_64 : decode cX10_years 64 = .ok ((.aload_n 0), 1) := by decide +kernel
theorem dX10_years_65 : decode cX10_years 65 = .ok ((.getfield 30), 3) := by decide +kernel
theorem dX10_years_68 : decode cX10_years 68 = .ok ((.getfield 48), 3) := by decide +kernel
theorem dX10_years_71 : decode cX10_years 71 = .ok ((.invokevirtual 177), 3) := by decide +kernel
theorem dX10_years_74 : decode cX10_years 74 = .ok ((.aload_n 0), 1) := by decide +kernel
theorem dX10_years_75 : decode cX10_years 75 = .ok ((.aload_n 0), 1) := by decide +kernel
theorem dX10_years_76 : decode cX10_years 76 = .ok ((.getfield 26), 3) := by decide +kernel
theorem dX10_years_79 : decode cX10_years 79 = .ok ((.getfield 48), 3) := by decide +kernel
theorem dX10_years_82 : decode cX10_years 82 = .ok ((.getfield 182), 3) := by decide +kernel
theorem dX10_years_85 : decode cX10_years 85 = .ok ((.invokevirtual 173), 3) := by decide +kernel
theorem dX10_years_88 : decode cX10_years 88 = .ok (.ireturn, 1) := by decide +kernel
def p_X10_years_22  (a1 : Int32)   (post : Int32 → vSt → Prop) (S : vSt)  : Prop := p_X10_refused  S 5 (fun r14 S13 => post r14 S13)
def p_X10_years   (S : vSt) (a1 : Int32) (post : Int32 → vSt → Prop) : Prop := ((a1 < 0 → p_X10_years_22 a1 post S ) ∧ (¬ a1 < 0 → (((S.1 5 1) < a1 → p_X10_years_22 a1 post S ) ∧ (¬ (S.1 5 1) < a1 → ((a1 ≤ 300 → p_X6_split  S a1 (fun S13 => p_X9_readText  S13  (fun r15 S14 => p_X10_tellFault  S14 r15 (fun r17 S16 => ((r17 = true → p_X8_copyFrom 10 32 S16  (fun S18 => p_X10_told  S18 (S18.1 25 7) (fun r20 S19 => post r20 S19))) ∧ (r17 = false → p_X10_refused  S16 10 (fun r22 S21 => post r22 S21))))))) ∧ (¬ a1 ≤ 300 → p_X10_years_22 a1 post S ))))))
set_option maxHeartbeats 4000000 in
set_option maxRecDepth 100000 in
theorem q_X10_years_22 {X : vX} {G : vG}  {post : Int32 → vSt → Prop} (C : v_Cx X G cX10_years RX10 2 (v_rm 7 295)) (D : v_Rx X G (v_Qi G post) (some .int))  {a1 : Int32}   : ∀ (S : vSt), p_X10_years_22 a1 post S  → VJ X G S 22 [(0, .ref (G.1 0))] [] := by
  intro S  h
  refine V_aload_n C 0 dX10_years_22 rfl rfl ?_
  refine V_iconst (v := 5) C dX10_years_23 (by decide) ?_
  refine V_callVi (As := [.int 5]) (rest := []) C (c_X10_refused (v_l X) G  _ _ h) 0 10 (by decide) (by decide) (by decide) rfl KV_X10_refused k_RX10_153 rfl rfl rfl (Nat.le_of_ble_eq_true rfl) ⟨Nat.le_of_ble_eq_true rfl, Nat.le_of_ble_eq_true rfl⟩ dX10_years_24 (fun r14 S13 h => ?_)
  exact V_iret C D dX10_years_27 h
set_option maxHeartbeats 4000000 in
set_option maxRecDepth 100000 in
theorem c_X10_years (l : Launch) (G : vG)    {S : vSt} (a1 : Int32) (post : Int32 → vSt → Prop) (h : p_X10_years   S a1 post) : Met l yX10_years (v_ws yX10_years cX10_years 2 (some .int)) (v_rm 7 295) (v_Pc G [.ref (G.1 0), .int a1] S) (v_Qi G post) 0 0 (v_A G) := by
  refine v_start (by decide +kernel) (Nat.le_of_ble_eq_true rfl) (fun X hl C D => ?_)
  subst hl
  have C : v_Cx X G cX10_years RX10 2 (v_rm 7 295) := C
  show VJ X G S 0 [(0, .ref (G.1 0)), (1, .int a1)] []
  refine V_iload_n C 1 dX10_years_0 rfl rfl ?_
  refine V_if_lt (tgt := 22) C dX10_years_1 (by decide) (fun c => ?_) (fun c => ?_)
  · have h := h.1 c
    refine V_loc (lv' := [(0, .ref (G.1 0))]) [0] rfl ?_
    exact q_X10_years_22 C D  _ h
  · have h := h.2 c
    refine V_iload_n C 1 dX10_years_4 rfl rfl ?_
    refine V_aload_n C 0 dX10_years_5 rfl rfl ?_
    refine V_ga C 0 (by decide) (by decide) F_10_1 k_RX10_19 dX10_years_6 ?_
    refine V_gi C 5 (by decide) (by decide) F_6_1 k_RX10_150 dX10_years_9 ?_
    refine V_icmp_gt (tgt := 22) C dX10_years_12 (by decide) (fun c => ?_) (fun c => ?_)
    · have h := h.1 c
      refine V_loc (lv' := [(0, .ref (G.1 0))]) [0] rfl ?_
      exact q_X10_years_22 C D  _ h
    · have h := h.2 c
      refine V_iload_n C 1 dX10_years_15 rfl rfl ?_
      refine V_sipush (v := 300) C dX10_years_16 (by decide) ?_
      refine V_icmp_le (tgt := 28) C dX10_years_19 (by decide) (fun c => ?_) (fun c => ?_)
      · have h := h.1 c
        refine V_aload_n C 0 dX10_years_28 rfl rfl ?_
        refine V_ga C 0 (by decide) (by decide) F_10_1 k_RX10_19 dX10_years_29 ?_
        refine V_iload_n C 1 dX10_years_32 rfl rfl ?_
        refine V_callVv (As := [.int a1]) (rest := []) C (c_X6_split (v_l X) G  _ _ h) 5 6 (by decide) (by decide) (by decide) rfl KV_X6_split k_RX10_157 rfl rfl rfl (Nat.le_of_ble_eq_true rfl) ⟨Nat.le_of_ble_eq_true rfl, Nat.le_of_ble_eq_true rfl⟩ dX10_years_33 (fun S13 h => ?_)
        refine V_aload_n C 0 dX10_years_36 rfl rfl ?_
        refine V_aload_n C 0 dX10_years_37 rfl rfl ?_
        refine V_ga C 0 (by decide) (by decide) F_10_6 k_RX10_55 dX10_years_38 ?_
        refine V_callVz (As := []) (rest := [.ref (G.1 0)]) C (c_X9_readText (v_l X) G  _ h) 56 9 (by decide) (by decide) (by decide) rfl KV_X9_readText k_RX10_176 rfl rfl rfl (Nat.le_of_ble_eq_true rfl) ⟨Nat.le_of_ble_eq_true rfl, Nat.le_of_ble_eq_true rfl⟩ dX10_years_41 (fun r15 S14 h => ?_)
        refine V_callVz (As := [.int (v_b r15)]) (rest := []) C (c_X10_tellFault (v_l X) G  _ _ h) 0 10 (by decide) (by decide) (by decide) rfl KV_X10_tellFault k_RX10_163 rfl rfl rfl (Nat.le_of_ble_eq_true rfl) ⟨Nat.le_of_ble_eq_true rfl, Nat.le_of_ble_eq_true rfl⟩ dX10_years_44 (fun r17 S16 h => ?_)
        refine V_ifb_ne (tgt := 57) C dX10_years_47 (by decide) (fun c => ?_) (fun c => ?_)
        · have h := h.1 c
          refine V_aload_n C 0 dX10_years_57 rfl rfl ?_
          refine V_ga C 0 (by decide) (by decide) F_10_2 k_RX10_26 dX10_years_58 ?_
          refine V_gr C 10 (by decide) (by decide) F_0_14 k_RX10_48 dX10_years_61 ?_
          refine V_aload_n C 0 dX10_years_64 rfl rfl ?_
          refine V_ga C 0 (by decide) (by decide) F_10_3 k_RX10_30 dX10_years_65 ?_
          refine V_gr C 32 (by decide) (by decide) F_0_14 k_RX10_48 dX10_years_68 ?_
          refine V_callVv (As := [.ref (G.1 47)]) (rest := []) C (c_X8_copyFrom (v_l X) G v_i10 v_i32 _ h) 25 8 (by decide) (by decide) (by decide) rfl KV_X8_copyFrom k_RX10_177 rfl rfl rfl (Nat.le_of_ble_eq_true rfl) ⟨Nat.le_of_ble_eq_true rfl, Nat.le_of_ble_eq_true rfl⟩ dX10_years_71 (fun S18 h => ?_)
          refine V_aload_n C 0 dX10_years_74 rfl rfl ?_
          refine V_aload_n C 0 dX10_years_75 rfl rfl ?_
          refine V_ga C 0 (by decide) (by decide) F_10_2 k_RX10_26 dX10_years_76 ?_
          refine V_gr C 10 (by decide) (by decide) F_0_14 k_RX10_48 dX10_years_79 ?_
          refine V_gi C 25 (by decide) (by decide) F_8_7 k_RX10_182 dX10_years_82 ?_
          refine V_callVi (As := [.int (S18.1 25 7)]) (rest := []) C (c_X10_told (v_l X) G  _ _ h) 0 10 (by decide) (by decide) (by decide) rfl KV_X10_told k_RX10_173 rfl rfl rfl (Nat.le_of_ble_eq_true rfl) ⟨Nat.le_of_ble_eq_true rfl, Nat.le_of_ble_eq_true rfl⟩ dX10_years_85 (fun r20 S19 h => ?_)
          exact V_iret C D dX10_years_88 h
        · have h := h.2 c
          refine V_aload_n C 0 dX10_years_50 rfl rfl ?_
          refine V_bipush (v := 10) C dX10_years_51 (by decide) ?_
          refine V_callVi (As := [.int 10]) (rest := []) C (c_X10_refused (v_l X) G  _ _ h) 0 10 (by decide) (by decide) (by decide) rfl KV_X10_refused k_RX10_153 rfl rfl rfl (Nat.le_of_ble_eq_true rfl) ⟨Nat.le_of_ble_eq_true rfl, Nat.le_of_ble_eq_true rfl⟩ dX10_years_53 (fun r22 S21 h => ?_)
          exact V_iret C D dX10_years_56 h
      · have h := h.2 c
        refine V_loc (lv' := [(0, .ref (G.1 0))]) [0] rfl ?_
        exact q_X10_years_22 C D  _ h
/-! HalfAccuser.many(I)I -/
theorem dX10_many_0 : decode cX10_many 0 = .ok ((.iload_n 1), 1) := by decide +kernel
theorem dX10_many_1 : decode cX10_many 1 = .ok ((.ifCond .lt 9), 3) := by decide +kernel
theorem dX10_many_4 : decode cX10_many 4 = .ok ((.iload_n 1), 1) := by decide +kernel
theorem dX10_many_5 : decode cX10_many 5 = .ok ((.bipush 11), 2) := by decide +kernel
theorem dX10_many_7 : decode cX10_many 7 = .ok ((.if_icmp .lt 9), 3) := by decide +kernel
theorem dX10_many_10 : decode cX10_many 10 = .ok ((.aload_n 0), 1) := by decide +kernel
theorem dX10_many_11 : decode cX10_many 11 = .ok ((.iconst 5), 1) := by decide +kernel
theorem dX10_many_12 : decode cX10_many 12 = .ok ((.invokevirtual 153), 3) := by decide +kernel
theorem dX10_many_15 : decode cX10_many 15 = .ok (.ireturn, 1) := by decide +kernel
theorem dX10_many_16 : decode cX10_many 16 = .ok ((.aload_n 0), 1) := by decide +kernel
theorem dX10_many_17 : decode cX10_many 17 = .ok ((.aload_n 0), 1) := by decide +kernel
theorem dX10_many_18 : decode cX10_many 18 = .ok ((.getfield 26), 3) := by decide +kernel
theorem dX10_many_21 : decode cX10_many 21 = .ok ((.iload_n 1), 1) := by decide +kernel
theorem dX10_many_22 : decode cX10_many 22 = .ok ((.invokevirtual 185), 3) := by decide +kernel
theorem dX10_many_25 : decode cX10_many 25 = .ok ((.invokevirtual 173), 3) := by decide +kernel
theorem dX10_many_28 : decode cX10_many 28 = .ok (.ireturn, 1) := by decide +kernel
def p_X10_many_10  (a1 : Int32)   (post : Int32 → vSt → Prop) (S : vSt)  : Prop := p_X10_refused  S 5 (fun r8 S7 => post r8 S7)
def p_X10_many   (S : vSt) (a1 : Int32) (post : Int32 → vSt → Prop) : Prop := ((a1 < 0 → p_X10_many_10 a1 post S ) ∧ (¬ a1 < 0 → ((a1 < 11 → p_X0_fact 10 S a1 (fun r8 S7 => p_X10_told  S7 r8 (fun r10 S9 => post r10 S9))) ∧ (¬ a1 < 11 → p_X10_many_10 a1 post S ))))
set_option maxHeartbeats 4000000 in
set_option maxRecDepth 100000 in
theorem q_X10_many_10 {X : vX} {G : vG}  {post : Int32 → vSt → Prop} (C : v_Cx X G cX10_many RX10 2 (v_rm 4 125)) (D : v_Rx X G (v_Qi G post) (some .int))  {a1 : Int32}   : ∀ (S : vSt), p_X10_many_10 a1 post S  → VJ X G S 10 [(0, .ref (G.1 0))] [] := by
  intro S  h
  refine V_aload_n C 0 dX10_many_10 rfl rfl ?_
  refine V_iconst (v := 5) C dX10_many_11 (by decide) ?_
  refine V_callVi (As := [.int 5]) (rest := []) C (c_X10_refused (v_l X) G  _ _ h) 0 10 (by decide) (by decide) (by decide) rfl KV_X10_refused k_RX10_153 rfl rfl rfl (Nat.le_of_ble_eq_true rfl) ⟨Nat.le_of_ble_eq_true rfl, Nat.le_of_ble_eq_true rfl⟩ dX10_many_12 (fun r8 S7 h => ?_)
  exact V_iret C D dX10_many_15 h
set_option maxHeartbeats 4000000 in
set_option maxRecDepth 100000 in
theorem c_X10_many (l : Launch) (G : vG)    {S : vSt} (a1 : Int32) (post : Int32 → vSt → Prop) (h : p_X10_many   S a1 post) : Met l yX10_many (v_ws yX10_many cX10_many 2 (some .int)) (v_rm 4 125) (v_Pc G [.ref (G.1 0), .int a1] S) (v_Qi G post) 0 0 (v_A G) := by
  refine v_start (by decide +kernel) (Nat.le_of_ble_eq_true rfl) (fun X hl C D => ?_)
  subst hl
  have C : v_Cx X G cX10_many RX10 2 (v_rm 4 125) := C
  show VJ X G S 0 [(0, .ref (G.1 0)), (1, .int a1)] []
  refine V_iload_n C 1 dX10_many_0 rfl rfl ?_
  refine V_if_lt (tgt := 10) C dX10_many_1 (by decide) (fun c => ?_) (fun c => ?_)
  · have h := h.1 c
    refine V_loc (lv' := [(0, .ref (G.1 0))]) [0] rfl ?_
    exact q_X10_many_10 C D  _ h
  · have h := h.2 c
    refine V_iload_n C 1 dX10_many_4 rfl rfl ?_
    refine V_bipush (v := 11) C dX10_many_5 (by decide) ?_
    refine V_icmp_lt (tgt := 16) C dX10_many_7 (by decide) (fun c => ?_) (fun c => ?_)
    · have h := h.1 c
      refine V_aload_n C 0 dX10_many_16 rfl rfl ?_
      refine V_aload_n C 0 dX10_many_17 rfl rfl ?_
      refine V_ga C 0 (by decide) (by decide) F_10_2 k_RX10_26 dX10_many_18 ?_
      refine V_iload_n C 1 dX10_many_21 rfl rfl ?_
      refine V_callVi (As := [.int a1]) (rest := [.ref (G.1 0)]) C (c_X0_fact (v_l X) G v_i10 _ _ h) 10 0 (by decide) (by decide) (by decide) rfl KV_X0_fact k_RX10_185 rfl rfl rfl (Nat.le_of_ble_eq_true rfl) ⟨Nat.le_of_ble_eq_true rfl, Nat.le_of_ble_eq_true rfl⟩ dX10_many_22 (fun r8 S7 h => ?_)
      refine V_callVi (As := [.int r8]) (rest := []) C (c_X10_told (v_l X) G  _ _ h) 0 10 (by decide) (by decide) (by decide) rfl KV_X10_told k_RX10_173 rfl rfl rfl (Nat.le_of_ble_eq_true rfl) ⟨Nat.le_of_ble_eq_true rfl, Nat.le_of_ble_eq_true rfl⟩ dX10_many_25 (fun r10 S9 h => ?_)
      exact V_iret C D dX10_many_28 h
    · have h := h.2 c
      refine V_loc (lv' := [(0, .ref (G.1 0))]) [0] rfl ?_
      exact q_X10_many_10 C D  _ h
/-! HalfAccuser.person(II)I -/
theorem dX10_person_0 : decode cX10_person 0 = .ok ((.aload_n 0), 1) := by decide +kernel
theorem dX10_person_1 : decode cX10_person 1 = .ok ((.getfield 26), 3) := by decide +kernel
theorem dX10_person_4 : decode cX10_person 4 = .ok ((.iload_n 1), 1) := by decide +kernel
theorem dX10_person_5 : decode cX10_person 5 = .ok ((.invokevirtual 188), 3) := by decide +kernel
theorem dX10_person_8 : decode cX10_person 8 = .ok ((.ifCond .ne 9), 3) := by decide +kernel
theorem dX10_person_11 : decode cX10_person 11 = .ok ((.aload_n 0), 1) := by decide +kernel
theorem dX10_person_12 : decode cX10_person 12 = .ok ((.iconst 2), 1) := by decide +kernel
theorem dX10_person_13 : decode cX10_person 13 = .ok ((.invokevirtual 153), 3) := by decide +kernel
theorem dX10_person_16 : decode cX10_person 16 = .ok (.ireturn, 1) := by decide +kernel
theorem dX10_person_17 : decode cX10_person 17 = .ok ((.iload_n 2), 1) := by decide +kernel
theorem dX10_person_18 : decode cX10_person 18 = .ok ((.ifCond .lt 9), 3) := by decide +kernel
theorem dX10_person_21 : decode cX10_person 21 = .ok ((.iload_n 2), 1) := by decide +kernel
theorem dX10_person_22 : decode cX10_person 22 = .ok ((.bipush 6), 2) := by decide +kernel
theorem dX10_person_24 : decode cX10_person 24 = .ok ((.if_icmp .lt 9), 3) := by decide +kernel
theorem dX10_person_27 : decode cX10_person 27 = .ok ((.aload_n 0), 1) := by decide +kernel
theorem dX10_person_28 : decode cX10_person 28 = .ok ((.iconst 5), 1) := by decide +kernel
theorem dX10_person_29 : decode cX10_person 29 = .ok ((.invokevirtual 153), 3) := by decide +kernel
theorem dX10_person_32 : decode cX10_person 32 = .ok (.ireturn, 1) := by decide +kernel
theorem dX10_person_33 : decode cX10_person 33 = .ok ((.aload_n 0), 1) := by decide +kernel
theorem dX10_person_34 : decode cX10_person 34 = .ok ((.aload_n 0), 1) := by decide +kernel
theorem dX10_person_35 : decode cX10_person 35 = .ok ((.getfield 26), 3) := by decide +kernel
theorem dX10_person_38 : decode cX10_person 38 = .ok ((.iload_n 1), 1) := by decide +kernel
theorem dX10_person_39 : decode cX10_person 39 = .ok ((.iload_n 2), 1) := by decide +kernel
theorem dX10_person_40 : decode cX10_person 40 = .ok ((.invokevirtual 191), 3) := by decide +kernel
theorem dX10_person_43 : decode cX10_person 43 = .ok ((.invokevirtual 173), 3) := by decide +kernel
theorem dX10_person_46 : decode cX10_person 46 = .ok (.ireturn, 1) := by decide +kernel
def p_X10_person_27  (a1 : Int32) (a2 : Int32)   (post : Int32 → vSt → Prop) (S : vSt)  : Prop := p_X10_refused  S 5 (fun r14 S13 => post r14 S13)
def p_X10_person   (S : vSt) (a1 : Int32) (a2 : Int32) (post : Int32 → vSt → Prop) : Prop := p_X0_hasPerson 10 S a1 (fun r12 S11 => ((r12 = true → ((a2 < 0 → p_X10_person_27 a1 a2 post S11 ) ∧ (¬ a2 < 0 → ((a2 < 6 → p_X0_personFact 10 S11 a1 a2 (fun r14 S13 => p_X10_told  S13 r14 (fun r16 S15 => post r16 S15))) ∧ (¬ a2 < 6 → p_X10_person_27 a1 a2 post S11 ))))) ∧ (r12 = false → p_X10_refused  S11 2 (fun r18 S17 => post r18 S17))))
set_option maxHeartbeats 4000000 in
set_option maxRecDepth 100000 in
theorem q_X10_person_27 {X : vX} {G : vG}  {post : Int32 → vSt → Prop} (C : v_Cx X G cX10_person RX10 3 (v_rm 4 128)) (D : v_Rx X G (v_Qi G post) (some .int))  {a1 : Int32} {a2 : Int32}   : ∀ (S : vSt), p_X10_person_27 a1 a2 post S  → VJ X G S 27 [(0, .ref (G.1 0))] [] := by
  intro S  h
  refine V_aload_n C 0 dX10_person_27 rfl rfl ?_
  refine V_iconst (v := 5) C dX10_person_28 (by decide) ?_
  refine V_callVi (As := [.int 5]) (rest := []) C (c_X10_refused (v_l X) G  _ _ h) 0 10 (by decide) (by decide) (by decide) rfl KV_X10_refused k_RX10_153 rfl rfl rfl (Nat.le_of_ble_eq_true rfl) ⟨Nat.le_of_ble_eq_true rfl, Nat.le_of_ble_eq_true rfl⟩ dX10_person_29 (fun r14 S13 h => ?_)
  exact V_iret C D dX10_person_32 h
set_option maxHeartbeats 4000000 in
set_option maxRecDepth 100000 in
theorem c_X10_person (l : Launch) (G : vG)    {S : vSt} (a1 : Int32) (a2 : Int32) (post : Int32 → vSt → Prop) (h : p_X10_person   S a1 a2 post) : Met l yX10_person (v_ws yX10_person cX10_person 3 (some .int)) (v_rm 4 128) (v_Pc G [.ref (G.1 0), .int a1, .int a2] S) (v_Qi G post) 0 0 (v_A G) := by
  refine v_start (by decide +kernel) (Nat.le_of_ble_eq_true rfl) (fun X hl C D => ?_)
  subst hl
  have C : v_Cx X G cX10_person RX10 3 (v_rm 4 128) := C
  show VJ X G S 0 [(0, .ref (G.1 0)), (1, .int a1), (2, .int a2)] []
  refine V_aload_n C 0 dX10_person_0 rfl rfl ?_
  refine V_ga C 0 (by decide) (by decide) F_10_2 k_RX10_26 dX10_person_1 ?_
  refine V_iload_n C 1 dX10_person_4 rfl rfl ?_
  refine V_callVz (As := [.int a1]) (rest := []) C (c_X0_hasPerson (v_l X) G v_i10 _ _ h) 10 0 (by decide) (by decide) (by decide) rfl KV_X0_hasPerson k_RX10_188 rfl rfl rfl (Nat.le_of_ble_eq_true rfl) ⟨Nat.le_of_ble_eq_true rfl, Nat.le_of_ble_eq_true rfl⟩ dX10_person_5 (fun r12 S11 h => ?_)
  refine V_ifb_ne (tgt := 17) C dX10_person_8 (by decide) (fun c => ?_) (fun c => ?_)
  · have h := h.1 c
    refine V_iload_n C 2 dX10_person_17 rfl rfl ?_
    refine V_if_lt (tgt := 27) C dX10_person_18 (by decide) (fun c => ?_) (fun c => ?_)
    · have h := h.1 c
      refine V_loc (lv' := [(0, .ref (G.1 0))]) [0] rfl ?_
      exact q_X10_person_27 C D  _ h
    · have h := h.2 c
      refine V_iload_n C 2 dX10_person_21 rfl rfl ?_
      refine V_bipush (v := 6) C dX10_person_22 (by decide) ?_
      refine V_icmp_lt (tgt := 33) C dX10_person_24 (by decide) (fun c => ?_) (fun c => ?_)
      · have h := h.1 c
        refine V_aload_n C 0 dX10_person_33 rfl rfl ?_
        refine V_aload_n C 0 dX10_person_34 rfl rfl ?_
        refine V_ga C 0 (by decide) (by decide) F_10_2 k_RX10_26 dX10_person_35 ?_
        refine V_iload_n C 1 dX10_person_38 rfl rfl ?_
        refine V_iload_n C 2 dX10_person_39 rfl rfl ?_
        refine V_callVi (As := [.int a1, .int a2]) (rest := [.ref (G.1 0)]) C (c_X0_personFact (v_l X) G v_i10 _ _ _ h) 10 0 (by decide) (by decide) (by decide) rfl KV_X0_personFact k_RX10_191 rfl rfl rfl (Nat.le_of_ble_eq_true rfl) ⟨Nat.le_of_ble_eq_true rfl, Nat.le_of_ble_eq_true rfl⟩ dX10_person_40 (fun r14 S13 h => ?_)
        refine V_callVi (As := [.int r14]) (rest := []) C (c_X10_told (v_l X) G  _ _ h) 0 10 (by decide) (by decide) (by decide) rfl KV_X10_told k_RX10_173 rfl rfl rfl (Nat.le_of_ble_eq_true rfl) ⟨Nat.le_of_ble_eq_true rfl, Nat.le_of_ble_eq_true rfl⟩ dX10_person_43 (fun r16 S15 h => ?_)
        exact V_iret C D dX10_person_46 h
      · have h := h.2 c
        refine V_loc (lv' := [(0, .ref (G.1 0))]) [0] rfl ?_
        exact q_X10_person_27 C D  _ h
  · have h := h.2 c
    refine V_aload_n C 0 dX10_person_11 rfl rfl ?_
    refine V_iconst (v := 2) C dX10_person_12 (by decide) ?_
    refine V_callVi (As := [.int 2]) (rest := []) C (c_X10_refused (v_l X) G  _ _ h) 0 10 (by decide) (by decide) (by decide) rfl KV_X10_refused k_RX10_153 rfl rfl rfl (Nat.le_of_ble_eq_true rfl) ⟨Nat.le_of_ble_eq_true rfl, Nat.le_of_ble_eq_true rfl⟩ dX10_person_13 (fun r18 S17 h => ?_)
    exact V_iret C D dX10_person_16 h
/-! HalfAccuser.deed(II)I -/
theorem dX10_deed_0 : decode cX10_deed 0 = .ok ((.aload_n 0), 1) := by decide +kernel
theorem dX10_deed_1 : decode cX10_deed 1 = .ok ((.getfield 26), 3) := by decide +kernel
theorem dX10_deed_4 : decode cX10_deed 4 = .ok ((.iload_n 1), 1) := by decide +kernel
theorem dX10_deed_5 : decode cX10_deed 5 = .ok ((.invokevirtual 194), 3) := by decide +kernel
theorem dX10_deed_8 : decode cX10_deed 8 = .ok ((.ifCond .ne 9), 3) := by decide +kernel
theorem dX10_deed_11 : decode cX10_deed 11 = .ok ((.aload_n 0), 1) := by decide +kernel
theorem dX10_deed_12 : decode cX10_deed 12 = .ok ((.iconst 2), 1) := by decide +kernel
theorem dX10_deed_13 : decode cX10_deed 13 = .ok ((.invokevirtual 153), 3) := by decide +kernel
theorem dX10_deed_16 : decode cX10_deed 16 = .ok (.ireturn, 1) := by decide +kernel
theorem dX10_deed_17 : decode cX10_deed 17 = .ok ((.iload_n 2), 1) := by decide +kernel
theorem dX10_deed_18 : decode cX10_deed 18 = .ok ((.ifCond .lt 9), 3) := by decide +kernel
theorem dX10_deed_21 : decode cX10_deed 21 = .ok ((.iload_n 2), 1) := by decide +kernel
theorem dX10_deed_22 : decode cX10_deed 22 = .ok ((.bipush 6), 2) := by decide +kernel
theorem dX10_deed_24 : decode cX10_deed 24 = .ok ((.if_icmp .lt 9), 3) := by decide +kernel
theorem dX10_deed_27 : decode cX10_deed 27 = .ok ((.aload_n 0), 1) := by decide +kernel
theorem dX10_deed_28 : decode cX10_deed 28 = .ok ((.iconst 5), 1) := by decide +kernel
theorem dX10_deed_29 : decode cX10_deed 29 = .ok ((.invokevirtual 153), 3) := by decide +kernel
theorem dX10_deed_32 : decode cX10_deed 32 = .ok (.ireturn, 1) := by decide +kernel
theorem dX10_deed_33 : decode cX10_deed 33 = .ok ((.iload_n 2), 1) := by decide +kernel
theorem dX10_deed_34 : decode cX10_deed 34 = .ok ((.iconst 4), 1) := by decide +kernel
theorem dX10_deed_35 : decode cX10_deed 35 = .ok ((.if_icmp .lt 21), 3) := by decide +kernel
theorem dX10_deed_38 : decode cX10_deed 38 = .ok ((.aload_n 0), 1) := by decide +kernel
theorem dX10_deed_39 : decode cX10_deed 39 = .ok ((.getfield 26), 3) := by decide +kernel
theorem dX10_deed_42 : decode cX10_deed 42 = .ok ((.iload_n 1), 1) := by decide +kernel
theorem dX10_deed_43 : decode cX10_deed 43 = .ok ((.invokevirtual 197), 3) := by decide +kernel
theorem dX10_deed_46 : decode cX10_deed 46 = .ok ((.ifCond .eq 10), 3) := by decide +kernel
theorem dX10_deed_49 : decode cX10_deed 49 = .ok ((.aload_n 0), 1) := by decide +kernel
theorem dX10_deed_50 : decode cX10_deed 50 = .ok ((.bipush 8), 2) := by decide +kernel
theorem dX10_deed_52 : decode cX10_deed 52 = .ok ((.invokevirtual 153), 3) := by decide +kernel
theorem dX10_deed_55 : decode cX10_deed 55 = .ok (.ireturn, 1) := by decide +kernel
theorem dX10_deed_56 : decode cX10_deed 56 = .ok ((.aload_n 0), 1) := by decide +kernel
theorem dX10_deed_57 : decode cX10_deed 57 = .ok ((.aload_n 0), 1) := by decide +kernel
theorem dX10_deed_58 : decode cX10_deed 58 = .ok ((.getfield 26), 3) := by decide +kernel
theorem dX10_deed_61 : decode cX10_deed 61 = .ok ((.iload_n 1), 1) := by decide +kernel
theorem dX10_deed_62 : decode cX10_deed 62 = .ok ((.iload_n 2), 1) := by decide +kernel
theorem dX10_deed_63 : decode cX10_deed 63 = .ok ((.invokevirtual 200), 3) := by decide +kernel
theorem dX10_deed_66 : decode cX10_deed 66 = .ok ((.invokevirtual 173), 3) := by decide +kernel
theorem dX10_deed_69 : decode cX10_deed 69 = .ok (.ireturn, 1) := by decide +kernel
def p_X10_deed_27  (a1 : Int32) (a2 : Int32)   (post : Int32 → vSt → Prop) (S : vSt)  : Prop := p_X10_refused  S 5 (fun r18 S17 => post r18 S17)
def p_X10_deed_56  (a1 : Int32) (a2 : Int32)   (post : Int32 → vSt → Prop) (S : vSt)  : Prop := p_X0_deedFact 10 S a1 a2 (fun r18 S17 => p_X10_told  S17 r18 (fun r20 S19 => post r20 S19))
def p_X10_deed   (S : vSt) (a1 : Int32) (a2 : Int32) (post : Int32 → vSt → Prop) : Prop := p_X0_hasDeed 10 S a1 (fun r16 S15 => ((r16 = true → ((a2 < 0 → p_X10_deed_27 a1 a2 post S15 ) ∧ (¬ a2 < 0 → ((a2 < 6 → ((a2 < 4 → p_X10_deed_56 a1 a2 post S15 ) ∧ (¬ a2 < 4 → p_X0_isOpen 10 S15 a1 (fun r18 S17 => ((r18 = false → p_X10_deed_56 a1 a2 post S17 ) ∧ (r18 = true → p_X10_refused  S17 8 (fun r20 S19 => post r20 S19))))))) ∧ (¬ a2 < 6 → p_X10_deed_27 a1 a2 post S15 ))))) ∧ (r16 = false → p_X10_refused  S15 2 (fun r22 S21 => post r22 S21))))
set_option maxHeartbeats 4000000 in
set_option maxRecDepth 100000 in
theorem q_X10_deed_27 {X : vX} {G : vG}  {post : Int32 → vSt → Prop} (C : v_Cx X G cX10_deed RX10 3 (v_rm 2 83)) (D : v_Rx X G (v_Qi G post) (some .int))  {a1 : Int32} {a2 : Int32}   : ∀ (S : vSt), p_X10_deed_27 a1 a2 post S  → VJ X G S 27 [(0, .ref (G.1 0))] [] := by
  intro S  h
  refine V_aload_n C 0 dX10_deed_27 rfl rfl ?_
  refine V_iconst (v := 5) C dX10_deed_28 (by decide) ?_
  refine V_callVi (As := [.int 5]) (rest := []) C (c_X10_refused (v_l X) G  _ _ h) 0 10 (by decide) (by decide) (by decide) rfl KV_X10_refused k_RX10_153 rfl rfl rfl (Nat.le_of_ble_eq_true rfl) ⟨Nat.le_of_ble_eq_true rfl, Nat.le_of_ble_eq_true rfl⟩ dX10_deed_29 (fun r18 S17 h => ?_)
  exact V_iret C D dX10_deed_32 h
set_option maxHeartbeats 4000000 in
set_option maxRecDepth 100000 in
theorem q_X10_deed_56 {X : vX} {G : vG}  {post : Int32 → vSt → Prop} (C : v_Cx X G cX10_deed RX10 3 (v_rm 2 83)) (D : v_Rx X G (v_Qi G post) (some .int))  {a1 : Int32} {a2 : Int32}   : ∀ (S : vSt), p_X10_deed_56 a1 a2 post S  → VJ X G S 56 [(0, .ref (G.1 0)), (1, .int a1), (2, .int a2)] [] := by
  intro S  h
  refine V_aload_n C 0 dX10_deed_56 rfl rfl ?_
  refine V_aload_n C 0 dX10_deed_57 rfl rfl ?_
  refine V_ga C 0 (by decide) (by decide) F_10_2 k_RX10_26 dX10_deed_58 ?_
  refine V_iload_n C 1 dX10_deed_61 rfl rfl ?_
  refine V_iload_n C 2 dX10_deed_62 rfl rfl ?_
  refine V_callVi (As := [.int a1, .int a2]) (rest := [.ref (G.1 0)]) C (c_X0_deedFact (v_l X) G v_i10 _ _ _ h) 10 0 (by decide) (by decide) (by decide) rfl KV_X0_deedFact k_RX10_200 rfl rfl rfl (Nat.le_of_ble_eq_true rfl) ⟨Nat.le_of_ble_eq_true rfl, Nat.le_of_ble_eq_true rfl⟩ dX10_deed_63 (fun r18 S17 h => ?_)
  refine V_callVi (As := [.int r18]) (rest := []) C (c_X10_told (v_l X) G  _ _ h) 0 10 (by decide) (by decide) (by decide) rfl KV_X10_told k_RX10_173 rfl rfl rfl (Nat.le_of_ble_eq_true rfl) ⟨Nat.le_of_ble_eq_true rfl, Nat.le_of_ble_eq_true rfl⟩ dX10_deed_66 (fun r20 S19 h => ?_)
  exact V_iret C D dX10_deed_69 h
set_option maxHeartbeats 4000000 in
set_option maxRecDepth 100000 in
theorem c_X10_deed (l : Launch) (G : vG)    {S : vSt} (a1 : Int32) (a2 : Int32) (post : Int32 → vSt → Prop) (h : p_X10_deed   S a1 a2 post) : Met l yX10_deed (v_ws yX10_deed cX10_deed 3 (some .int)) (v_rm 2 83) (v_Pc G [.ref (G.1 0), .int a1, .int a2] S) (v_Qi G post) 0 0 (v_A G) := by
  refine v_start (by decide +kernel) (Nat.le_of_ble_eq_true rfl) (fun X hl C D => ?_)
  subst hl
  have C : v_Cx X G cX10_deed RX10 3 (v_rm 2 83) := C
  show VJ X G S 0 [(0, .ref (G.1 0)), (1, .int a1), (2, .int a2)] []
  refine V_aload_n C 0 dX10_deed_0 rfl rfl ?_
  refine V_ga C 0 (by decide) (by decide) F_10_2 k_RX10_26 dX10_deed_1 ?_
  refine V_iload_n C 1 dX10_deed_4 rfl rfl ?_
  refine V_callVz (As := [.int a1]) (rest := []) C (c_X0_hasDeed (v_l X) G v_i10 _ _ h) 10 0 (by decide) (by decide) (by decide) rfl KV_X0_hasDeed k_RX10_194 rfl rfl rfl (Nat.le_of_ble_eq_true rfl) ⟨Nat.le_of_ble_eq_true rfl, Nat.le_of_ble_eq_true rfl⟩ dX10_deed_5 (fun r16 S15 h => ?_)
  refine V_ifb_ne (tgt := 17) C dX10_deed_8 (by decide) (fun c => ?_) (fun c => ?_)
  · have h := h.1 c
    refine V_iload_n C 2 dX10_deed_17 rfl rfl ?_
    refine V_if_lt (tgt := 27) C dX10_deed_18 (by decide) (fun c => ?_) (fun c => ?_)
    · have h := h.1 c
      refine V_loc (lv' := [(0, .ref (G.1 0))]) [0] rfl ?_
      exact q_X10_deed_27 C D  _ h
    · have h := h.2 c
      refine V_iload_n C 2 dX10_deed_21 rfl rfl ?_
      refine V_bipush (v := 6) C dX10_deed_22 (by decide) ?_
      refine V_icmp_lt (tgt := 33) C dX10_deed_24 (by decide) (fun c => ?_) (fun c => ?_)
      · have h := h.1 c
        refine V_iload_n C 2 dX10_deed_33 rfl rfl ?_
        refine V_iconst (v := 4) C dX10_deed_34 (by decide) ?_
        refine V_icmp_lt (tgt := 56) C dX10_deed_35 (by decide) (fun c => ?_) (fun c => ?_)
        · have h := h.1 c
          exact q_X10_deed_56 C D  _ h
        · have h := h.2 c
          refine V_aload_n C 0 dX10_deed_38 rfl rfl ?_
          refine V_ga C 0 (by decide) (by decide) F_10_2 k_RX10_26 dX10_deed_39 ?_
          refine V_iload_n C 1 dX10_deed_42 rfl rfl ?_
          refine V_callVz (As := [.int a1]) (rest := []) C (c_X0_isOpen (v_l X) G v_i10 _ _ h) 10 0 (by decide) (by decide) (by decide) rfl KV_X0_isOpen k_RX10_197 rfl rfl rfl (Nat.le_of_ble_eq_true rfl) ⟨Nat.le_of_ble_eq_true rfl, Nat.le_of_ble_eq_true rfl⟩ dX10_deed_43 (fun r18 S17 h => ?_)
          refine V_ifb_eq (tgt := 56) C dX10_deed_46 (by decide) (fun c => ?_) (fun c => ?_)
          · have h := h.1 c
            exact q_X10_deed_56 C D  _ h
          · have h := h.2 c
            refine V_aload_n C 0 dX10_deed_49 rfl rfl ?_
            refine V_bipush (v := 8) C dX10_deed_50 (by decide) ?_
            refine V_callVi (As := [.int 8]) (rest := []) C (c_X10_refused (v_l X) G  _ _ h) 0 10 (by decide) (by decide) (by decide) rfl KV_X10_refused k_RX10_153 rfl rfl rfl (Nat.le_of_ble_eq_true rfl) ⟨Nat.le_of_ble_eq_true rfl, Nat.le_of_ble_eq_true rfl⟩ dX10_deed_52 (fun r20 S19 h => ?_)
            exact V_iret C D dX10_deed_55 h
      · have h := h.2 c
        refine V_loc (lv' := [(0, .ref (G.1 0))]) [0] rfl ?_
        exact q_X10_deed_27 C D  _ h
  · have h := h.2 c
    refine V_aload_n C 0 dX10_deed_11 rfl rfl ?_
    refine V_iconst (v := 2) C dX10_deed_12 (by decide) ?_
    refine V_callVi (As := [.int 2]) (rest := []) C (c_X10_refused (v_l X) G  _ _ h) 0 10 (by decide) (by decide) (by decide) rfl KV_X10_refused k_RX10_153 rfl rfl rfl (Nat.le_of_ble_eq_true rfl) ⟨Nat.le_of_ble_eq_true rfl, Nat.le_of_ble_eq_true rfl⟩ dX10_deed_13 (fun r22 S21 h => ?_)
    exact V_iret C D dX10_deed_16 h
/-! HalfAccuser.areThere(II)Z -/
theorem dX10_areThere_0 : decode cX10_areThere 0 = .ok ((.aload_n 0), 1) := by decide +kernel
theorem dX10_areThere_1 : decode cX10_areThere 1 = .ok ((.getfield 26), 3) := by decide +kernel
theorem dX10_areThere_4 : decode cX10_areThere 4 = .ok ((.iload_n 1), 1) := by decide +kernel
theorem dX10_areThere_5 : decode cX10_areThere 5 = .ok ((.invokevirtual 188), 3) := by decide +kernel
theorem dX10_areThere_8 : decode cX10_areThere 8 = .ok ((.ifCond .eq 18), 3) := by decide +kernel
theorem dX10_areThere_11 : decode cX10_areThere 11 = .ok ((.aload_n 0), 1) := by decide +kernel
theorem dX10_areThere_12 : decode cX10_areThere 12 = .ok ((.getfield 26), 3) := by decide +kernel
theorem dX10_areThere_15 : decode cX10_areThere 15 = .ok ((.iload_n 2), 1) := by decide +kernel
theorem dX10_areThere_16 : decode cX10_areThere 16 = .ok ((.invokevirtual 194), 3) := by decide +kernel
theorem dX10_areThere_19 : decode cX10_areThere 19 = .ok ((.ifCond .eq 7), 3) := by decide +kernel
theorem dX10_areThere_22 : decode cX10_areThere 22 = .ok ((.iconst 1), 1) := by decide +kernel
theorem dX10_areThere_23 : decode cX10_areThere 23 = .ok ((.goto 4), 3) := by decide +kernel
theorem dX10_areThere_26 : decode cX10_areThere 26 = .ok ((.iconst 0), 1) := by decide +kernel
theorem dX10_areThere_27 : decode cX10_areThere 27 = .ok (.ireturn, 1) := by decide +kernel
def p_X10_areThere   (S : vSt) (a1 : Int32) (a2 : Int32) (post : Bool → vSt → Prop) : Prop := p_X0_hasPerson 10 S a1 (fun r6 S5 => ((r6 = false → post false S5) ∧ (r6 = true → p_X0_hasDeed 10 S5 a2 (fun r8 S7 => ((r8 = false → post false S7) ∧ (r8 = true → post true S7))))))
set_option maxHeartbeats 4000000 in
set_option maxRecDepth 100000 in
theorem c_X10_areThere (l : Launch) (G : vG)    {S : vSt} (a1 : Int32) (a2 : Int32) (post : Bool → vSt → Prop) (h : p_X10_areThere   S a1 a2 post) : Met l yX10_areThere (v_ws yX10_areThere cX10_areThere 3 (some .boolean)) (v_rm 1 61) (v_Pc G [.ref (G.1 0), .int a1, .int a2] S) (v_Qz G post) 0 0 (v_A G) := by
  refine v_start (by decide +kernel) (Nat.le_of_ble_eq_true rfl) (fun X hl C D => ?_)
  subst hl
  have C : v_Cx X G cX10_areThere RX10 3 (v_rm 1 61) := C
  show VJ X G S 0 [(0, .ref (G.1 0)), (1, .int a1), (2, .int a2)] []
  refine V_aload_n C 0 dX10_areThere_0 rfl rfl ?_
  refine V_ga C 0 (by decide) (by decide) F_10_2 k_RX10_26 dX10_areThere_1 ?_
  refine V_iload_n C 1 dX10_areThere_4 rfl rfl ?_
  refine V_callVz (As := [.int a1]) (rest := []) C (c_X0_hasPerson (v_l X) G v_i10 _ _ h) 10 0 (by decide) (by decide) (by decide) rfl KV_X0_hasPerson k_RX10_188 rfl rfl rfl (Nat.le_of_ble_eq_true rfl) ⟨Nat.le_of_ble_eq_true rfl, Nat.le_of_ble_eq_true rfl⟩ dX10_areThere_5 (fun r6 S5 h => ?_)
  refine V_ifb_eq (tgt := 26) C dX10_areThere_8 (by decide) (fun c => ?_) (fun c => ?_)
  · have h := h.1 c
    refine V_iconst (v := 0) C dX10_areThere_26 (by decide) ?_
    exact V_zret0 C D dX10_areThere_27 h
  · have h := h.2 c
    refine V_aload_n C 0 dX10_areThere_11 rfl rfl ?_
    refine V_ga C 0 (by decide) (by decide) F_10_2 k_RX10_26 dX10_areThere_12 ?_
    refine V_iload_n C 2 dX10_areThere_15 rfl rfl ?_
    refine V_callVz (As := [.int a2]) (rest := []) C (c_X0_hasDeed (v_l X) G v_i10 _ _ h) 10 0 (by decide) (by decide) (by decide) rfl KV_X0_hasDeed k_RX10_194 rfl rfl rfl (Nat.le_of_ble_eq_true rfl) ⟨Nat.le_of_ble_eq_true rfl, Nat.le_of_ble_eq_true rfl⟩ dX10_areThere_16 (fun r8 S7 h => ?_)
    refine V_ifb_eq (tgt := 26) C dX10_areThere_19 (by decide) (fun c => ?_) (fun c => ?_)
    · have h := h.1 c
      refine V_iconst (v := 0) C dX10_areThere_26 (by decide) ?_
      exact V_zret0 C D dX10_areThere_27 h
    · have h := h.2 c
      refine V_iconst (v := 1) C dX10_areThere_22 (by decide) ?_
      refine V_goto (tgt := 27) C dX10_areThere_23 (by decide) ?_
      exact V_zret1 C D dX10_areThere_27 h
/-! HalfAccuser.charge(III)I -/
theorem dX10_charge_0 : decode cX10_charge 0 = .ok ((.aload_n 0), 1) := by decide +kernel
theorem dX10_charge_1 : decode cX10_charge 1 = .ok ((.iload_n 1), 1) := by decide +kernel
theorem dX10_charge_2 : decode cX10_charge 2 = .ok ((.iload_n 2), 1) := by decide +kernel
theorem dX10_charge_3 : decode cX10_charge 3 = .ok ((.invokevirtual 216), 3) := by decide +kernel
theorem dX10_charge_6 : decode cX10_charge 6 = .ok ((.ifCond .ne 9), 3) := by decide +kernel
theorem dX10_charge_9 : decode cX10_charge 9 = .ok ((.aload_n 0), 1) := by decide +kernel
theorem dX10_charge_10 : decode cX10_charge 10 = .ok ((.iconst 2), 1) := by decide +kernel
theorem dX10_charge_11 : decode cX10_charge 11 = .ok ((.invokevirtual 153), 3) := by decide +kernel
theorem dX10_charge_14 : decode cX10_charge 14 = .ok (.ireturn, 1) := by decide +kernel
theorem dX10_charge_15 : decode cX10_charge 15 = .ok ((.iload_n 3), 1) := by decide +kernel
theorem dX10_charge_16 : decode cX10_charge 16 = .ok ((.ifCond .lt 15), 3) := by decide +kernel
theorem dX10_charge_19 : decode cX10_charge 19 = .ok ((.iload_n 3), 1) := by decide +kernel
theorem dX10_charge_20 : decode cX10_charge 20 = .ok ((.aload_n 0), 1) := by decide +kernel
theorem dX10_charge_21 : decode cX10_charge 21 = .ok ((.getfield 26), 3) := by decide +kernel
theorem dX10_charge_24 : decode cX10_charge 24 = .ok ((.iconst 0), 1) := by decide +kernel
theorem dX10_charge_25 : decode cX10_charge 25 = .ok ((.invokevirtual 220), 3) := by decide +kernel
theorem dX10_charge_28 : decode cX10_charge 28 = .ok ((.if_icmp .le 9), 3) := by decide +kernel
theorem dX10_charge_31 : decode cX10_charge 31 = .ok ((.aload_n 0), 1) := by decide +kernel
theorem dX10_charge_32 : decode cX10_charge 32 = .ok ((.iconst 5), 1) := by decide +kernel
theorem dX10_charge_33 : decode cX10_charge 33 = .ok ((.invokevirtual 153), 3) := by decide +kernel
theorem dX10_charge_36 : decode cX10_charge 36 = .ok (.ireturn, 1) := by decide +kernel
theorem dX10_charge_37 : decode cX10_charge 37 = .ok ((.aload_n 0), 1) := by decide +kernel
theorem dX10_charge_38 : decode cX10_charge 38 = .ok ((.getfield 26), 3) := by decide +kernel
theorem dX10_charge_41 : decode cX10_charge 41 = .ok ((.iload_n 1), 1) := by decide +kernel
theorem dX10_charge_42 : decode cX10_charge 42 = .ok ((.iload_n 2), 1) := by decide +kernel
theorem dX10_charge_43 : decode cX10_charge 43 = .ok ((.invokevirtual 223), 3) := by decide +kernel
theorem dX10_charge_46 : decode cX10_charge 46 = .ok ((.ifCond .ne 10), 3) := by decide +kernel
theorem dX10_charge_49 : decode cX10_charge 49 = .ok ((.aload_n 0), 1) := by decide +kernel
theorem dX10_charge_50 : decode cX10_charge 50 = .ok ((.bipush 9), 2) := by decide +kernel
theorem dX10_charge_52 : decode cX10_charge 52 = .ok ((.invokevirtual 153), 3) := by decide +kernel
theorem dX10_charge_55 : decode cX10_charge 55 = .ok (.ireturn, 1) := by decide +kernel
theorem dX10_charge_56 : decode cX10_charge 56 = .ok ((.aload_n 0), 1) := by decide +kernel
theorem dX10_charge_57 : decode cX10_charge 57 = .ok ((.getfield 26), 3) := by decide +kernel
theorem dX10_charge_60 : decode cX10_charge 60 = .ok ((.iload_n 1), 1) := by decide +kernel
theorem dX10_charge_61 : decode cX10_charge 61 = .ok ((.iload_n 2), 1) := by decide +kernel
theorem dX10_charge_62 : decode cX10_charge 62 = .ok ((.iload_n 3), 1) := by decide +kernel
theorem dX10_charge_63 : decode cX10_charge 63 = .ok ((.invokevirtual 226), 3) := by decide +kernel
theorem dX10_charge_66 : decode cX10_charge 66 = .ok (.pop, 1) := by decide +kernel
theorem dX10_charge_67 : decode cX10_charge 67 = .ok ((.aload_n 0), 1) := by decide +kernel
theorem dX10_charge_68 : decode cX10_charge 68 = .ok ((.aload_n 0), 1) := by decide +kernel
theorem dX10_charge_69 : decode cX10_charge 69 = .ok ((.getfield 26), 3) := by decide +kernel
theorem dX10_charge_72 : decode cX10_charge 72 = .ok ((.getfield 209), 3) := by decide +kernel
theorem dX10_charge_75 : decode cX10_charge 75 = .ok ((.iload_n 1), 1) := by decide +kernel
theorem dX10_charge_76 : decode cX10_charge 76 = .ok ((.invokestatic 212), 3) := by decide +kernel
theorem dX10_charge_79 : decode cX10_charge 79 = .ok ((.invokevirtual 173), 3) := by decide +kernel
theorem dX10_charge_82 : decode cX10_charge 82 = .ok (.ireturn, 1) := by decide +kernel
def p_X10_charge_31  (a1 : Int32) (a2 : Int32) (a3 : Int32)   (post : Int32 → vSt → Prop) (S : vSt)  : Prop := p_X10_refused  S 5 (fun r22 S21 => post r22 S21)
def p_X10_charge   (S : vSt) (a1 : Int32) (a2 : Int32) (a3 : Int32) (post : Int32 → vSt → Prop) : Prop := p_X10_areThere  S a1 a2 (fun r20 S19 => ((r20 = true → ((a3 < 0 → p_X10_charge_31 a1 a2 a3 post S19 ) ∧ (¬ a3 < 0 → p_X0_ruleOf 10 S19 0 (fun r22 S21 => ((a3 ≤ r22 → p_X0_mayCharge 10 S21 a1 a2 (fun r24 S23 => ((r24 = true → p_X0_decide 10 S23 a1 a2 a3 (fun r26 S25 => p_X10_at 13 8 S25 a1 (fun r28 S27 => p_X10_told  S27 r28 (fun r30 S29 => post r30 S29)))) ∧ (r24 = false → p_X10_refused  S23 9 (fun r32 S31 => post r32 S31))))) ∧ (¬ a3 ≤ r22 → p_X10_charge_31 a1 a2 a3 post S21 )))))) ∧ (r20 = false → p_X10_refused  S19 2 (fun r34 S33 => post r34 S33))))
set_option maxHeartbeats 4000000 in
set_option maxRecDepth 100000 in
theorem q_X10_charge_31 {X : vX} {G : vG}  {post : Int32 → vSt → Prop} (C : v_Cx X G cX10_charge RX10 4 (v_rm 3 109)) (D : v_Rx X G (v_Qi G post) (some .int))  {a1 : Int32} {a2 : Int32} {a3 : Int32}   : ∀ (S : vSt), p_X10_charge_31 a1 a2 a3 post S  → VJ X G S 31 [(0, .ref (G.1 0))] [] := by
  intro S  h
  refine V_aload_n C 0 dX10_charge_31 rfl rfl ?_
  refine V_iconst (v := 5) C dX10_charge_32 (by decide) ?_
  refine V_callVi (As := [.int 5]) (rest := []) C (c_X10_refused (v_l X) G  _ _ h) 0 10 (by decide) (by decide) (by decide) rfl KV_X10_refused k_RX10_153 rfl rfl rfl (Nat.le_of_ble_eq_true rfl) ⟨Nat.le_of_ble_eq_true rfl, Nat.le_of_ble_eq_true rfl⟩ dX10_charge_33 (fun r22 S21 h => ?_)
  exact V_iret C D dX10_charge_36 h
set_option maxHeartbeats 4000000 in
set_option maxRecDepth 100000 in
theorem c_X10_charge (l : Launch) (G : vG)    {S : vSt} (a1 : Int32) (a2 : Int32) (a3 : Int32) (post : Int32 → vSt → Prop) (h : p_X10_charge   S a1 a2 a3 post) : Met l yX10_charge (v_ws yX10_charge cX10_charge 4 (some .int)) (v_rm 3 109) (v_Pc G [.ref (G.1 0), .int a1, .int a2, .int a3] S) (v_Qi G post) 0 0 (v_A G) := by
  refine v_start (by decide +kernel) (Nat.le_of_ble_eq_true rfl) (fun X hl C D => ?_)
  subst hl
  have C : v_Cx X G cX10_charge RX10 4 (v_rm 3 109) := C
  show VJ X G S 0 [(0, .ref (G.1 0)), (1, .int a1), (2, .int a2), (3, .int a3)] []
  refine V_aload_n C 0 dX10_charge_0 rfl rfl ?_
  refine V_iload_n C 1 dX10_charge_1 rfl rfl ?_
  refine V_iload_n C 2 dX10_charge_2 rfl rfl ?_
  refine V_callVz (As := [.int a1, .int a2]) (rest := []) C (c_X10_areThere (v_l X) G  _ _ _ h) 0 10 (by decide) (by decide) (by decide) rfl KV_X10_areThere k_RX10_216 rfl rfl rfl (Nat.le_of_ble_eq_true rfl) ⟨Nat.le_of_ble_eq_true rfl, Nat.le_of_ble_eq_true rfl⟩ dX10_charge_3 (fun r20 S19 h => ?_)
  refine V_ifb_ne (tgt := 15) C dX10_charge_6 (by decide) (fun c => ?_) (fun c => ?_)
  · have h := h.1 c
    refine V_iload_n C 3 dX10_charge_15 rfl rfl ?_
    refine V_if_lt (tgt := 31) C dX10_charge_16 (by decide) (fun c => ?_) (fun c => ?_)
    · have h := h.1 c
      refine V_loc (lv' := [(0, .ref (G.1 0))]) [0] rfl ?_
      exact q_X10_charge_31 C D  _ h
    · have h := h.2 c
      refine V_iload_n C 3 dX10_charge_19 rfl rfl ?_
      refine V_aload_n C 0 dX10_charge_20 rfl rfl ?_
      refine V_ga C 0 (by decide) (by decide) F_10_2 k_RX10_26 dX10_charge_21 ?_
      refine V_iconst (v := 0) C dX10_charge_24 (by decide) ?_
      refine V_callVi (As := [.int 0]) (rest := [.int a3]) C (c_X0_ruleOf (v_l X) G v_i10 _ _ h) 10 0 (by decide) (by decide) (by decide) rfl KV_X0_ruleOf k_RX10_220 rfl rfl rfl (Nat.le_of_ble_eq_true rfl) ⟨Nat.le_of_ble_eq_true rfl, Nat.le_of_ble_eq_true rfl⟩ dX10_charge_25 (fun r22 S21 h => ?_)
      refine V_icmp_le (tgt := 37) C dX10_charge_28 (by decide) (fun c => ?_) (fun c => ?_)
      · have h := h.1 c
        refine V_aload_n C 0 dX10_charge_37 rfl rfl ?_
        refine V_ga C 0 (by decide) (by decide) F_10_2 k_RX10_26 dX10_charge_38 ?_
        refine V_iload_n C 1 dX10_charge_41 rfl rfl ?_
        refine V_iload_n C 2 dX10_charge_42 rfl rfl ?_
        refine V_callVz (As := [.int a1, .int a2]) (rest := []) C (c_X0_mayCharge (v_l X) G v_i10 _ _ _ h) 10 0 (by decide) (by decide) (by decide) rfl KV_X0_mayCharge k_RX10_223 rfl rfl rfl (Nat.le_of_ble_eq_true rfl) ⟨Nat.le_of_ble_eq_true rfl, Nat.le_of_ble_eq_true rfl⟩ dX10_charge_43 (fun r24 S23 h => ?_)
        refine V_ifb_ne (tgt := 56) C dX10_charge_46 (by decide) (fun c => ?_) (fun c => ?_)
        · have h := h.1 c
          refine V_aload_n C 0 dX10_charge_56 rfl rfl ?_
          refine V_ga C 0 (by decide) (by decide) F_10_2 k_RX10_26 dX10_charge_57 ?_
          refine V_iload_n C 1 dX10_charge_60 rfl rfl ?_
          refine V_iload_n C 2 dX10_charge_61 rfl rfl ?_
          refine V_iload_n C 3 dX10_charge_62 rfl rfl ?_
          refine V_callVi (As := [.int a1, .int a2, .int a3]) (rest := []) C (c_X0_decide (v_l X) G v_i10 _ _ _ _ h) 10 0 (by decide) (by decide) (by decide) rfl KV_X0_decide k_RX10_226 rfl rfl rfl (Nat.le_of_ble_eq_true rfl) ⟨Nat.le_of_ble_eq_true rfl, Nat.le_of_ble_eq_true rfl⟩ dX10_charge_63 (fun r26 S25 h => ?_)
          refine V_pop C dX10_charge_66 rfl ?_
          refine V_aload_n C 0 dX10_charge_67 rfl rfl ?_
          refine V_aload_n C 0 dX10_charge_68 rfl rfl ?_
          refine V_ga C 0 (by decide) (by decide) F_10_2 k_RX10_26 dX10_charge_69 ?_
          refine V_gr C 10 (by decide) (by decide) F_0_2 k_RX10_209 dX10_charge_72 ?_
          refine V_iload_n C 1 dX10_charge_75 rfl rfl ?_
          refine V_callSi (As := [.ref (G.1 13), .int a1]) (rest := [.ref (G.1 0)]) C (c_X10_at (v_l X) G (by decide) (by decide) _ _ h) KV_X10_at k_RX10_212 rfl rfl rfl (Nat.le_of_ble_eq_true rfl) ⟨Nat.le_of_ble_eq_true rfl, Nat.le_of_ble_eq_true rfl⟩ dX10_charge_76 (fun r28 S27 h => ?_)
          refine V_callVi (As := [.int r28]) (rest := []) C (c_X10_told (v_l X) G  _ _ h) 0 10 (by decide) (by decide) (by decide) rfl KV_X10_told k_RX10_173 rfl rfl rfl (Nat.le_of_ble_eq_true rfl) ⟨Nat.le_of_ble_eq_true rfl, Nat.le_of_ble_eq_true rfl⟩ dX10_charge_79 (fun r30 S29 h => ?_)
          exact V_iret C D dX10_charge_82 h
        · have h := h.2 c
          refine V_aload_n C 0 dX10_charge_49 rfl rfl ?_
          refine V_bipush (v := 9) C dX10_charge_50 (by decide) ?_
          refine V_callVi (As := [.int 9]) (rest := []) C (c_X10_refused (v_l X) G  _ _ h) 0 10 (by decide) (by decide) (by decide) rfl KV_X10_refused k_RX10_153 rfl rfl rfl (Nat.le_of_ble_eq_true rfl) ⟨Nat.le_of_ble_eq_true rfl, Nat.le_of_ble_eq_true rfl⟩ dX10_charge_52 (fun r32 S31 h => ?_)
          exact V_iret C D dX10_charge_55 h
      · have h := h.2 c
        refine V_loc (lv' := [(0, .ref (G.1 0))]) [0] rfl ?_
        exact q_X10_charge_31 C D  _ h
  · have h := h.2 c
    refine V_aload_n C 0 dX10_charge_9 rfl rfl ?_
    refine V_iconst (v := 2) C dX10_charge_10 (by decide) ?_
    refine V_callVi (As := [.int 2]) (rest := []) C (c_X10_refused (v_l X) G  _ _ h) 0 10 (by decide) (by decide) (by decide) rfl KV_X10_refused k_RX10_153 rfl rfl rfl (Nat.le_of_ble_eq_true rfl) ⟨Nat.le_of_ble_eq_true rfl, Nat.le_of_ble_eq_true rfl⟩ dX10_charge_11 (fun r34 S33 h => ?_)
    exact V_iret C D dX10_charge_14 h
/-! HalfAccuser.hear(III)I -/
theorem dX10_hear_0 : decode cX10_hear 0 = .ok ((.aload_n 0), 1) := by decide +kernel
theorem dX10_hear_1 : decode cX10_hear 1 = .ok ((.iload_n 1), 1) := by decide +kernel
theorem dX10_hear_2 : decode cX10_hear 2 = .ok ((.iload_n 2), 1) := by decide +kernel
theorem dX10_hear_3 : decode cX10_hear 3 = .ok ((.invokevirtual 216), 3) := by decide +kernel
theorem dX10_hear_6 : decode cX10_hear 6 = .ok ((.ifCond .ne 9), 3) := by decide +kernel
theorem dX10_hear_9 : decode cX10_hear 9 = .ok ((.aload_n 0), 1) := by decide +kernel
theorem dX10_hear_10 : decode cX10_hear 10 = .ok ((.iconst 2), 1) := by decide +kernel
theorem dX10_hear_11 : decode cX10_hear 11 = .ok ((.invokevirtual 153), 3) := by decide +kernel
theorem dX10_hear_14 : decode cX10_hear 14 = .ok (.ireturn, 1) := by decide +kernel
theorem dX10_hear_15 : decode cX10_hear 15 = .ok ((.iload_n 3), 1) := by decide +kernel
theorem dX10_hear_16 : decode cX10_hear 16 = .ok ((.ifCond .lt 10), 3) := by decide +kernel
theorem dX10_hear_19 : decode cX10_hear 19 = .ok ((.iload_n 3), 1) := by decide +kernel
theorem dX10_hear_20 : decode cX10_hear 20 = .ok ((.sipush 9999), 3) := by decide +kernel
theorem dX10_hear_23 : decode cX10_hear 23 = .ok ((.if_icmp .le 9), 3) := by decide +kernel
theorem dX10_hear_26 : decode cX10_hear 26 = .ok ((.aload_n 0), 1) := by decide +kernel
theorem dX10_hear_27 : decode cX10_hear 27 = .ok ((.iconst 5), 1) := by decide +kernel
theorem dX10_hear_28 : decode cX10_hear 28 = .ok ((.invokevirtual 153), 3) := by decide +kernel
theorem dX10_hear_31 : decode cX10_hear 31 = .ok (.ireturn, 1) := by decide +kernel
theorem dX10_hear_32 : decode cX10_hear 32 = .ok ((.aload_n 0), 1) := by decide +kernel
theorem dX10_hear_33 : decode cX10_hear 33 = .ok ((.getfield 26), 3) := by decide +kernel
theorem dX10_hear_36 : decode cX10_hear 36 = .ok ((.iload_n 1), 1) := by decide +kernel
theorem dX10_hear_37 : decode cX10_hear 37 = .ok ((.iload_n 2), 1) := by decide +kernel
theorem dX10_hear_38 : decode cX10_hear 38 = .ok ((.invokevirtual 223), 3) := by decide +kernel
theorem dX10_hear_41 : decode cX10_hear 41 = .ok ((.ifCond .ne 10), 3) := by decide +kernel
theorem dX10_hear_44 : decode cX10_hear 44 = .ok ((.aload_n 0), 1) := by decide +kernel
theorem dX10_hear_45 : decode cX10_hear 45 = .ok ((.bipush 9), 2) := by decide +kernel
theorem dX10_hear_47 : decode cX10_hear 47 = .ok ((.invokevirtual 153), 3) := by decide +kernel
theorem dX10_hear_50 : decode cX10_hear 50 = .ok (.ireturn, 1) := by decide +kernel
theorem dX10_hear_51 : decode cX10_hear 51 = .ok ((.aload_n 0), 1) := by decide +kernel
theorem dX10_hear_52 : decode cX10_hear 52 = .ok ((.getfield 87), 3) := by decide +kernel
theorem dX10_hear_55 : decode cX10_hear 55 = .ok ((.iload_n 3), 1) := by decide +kernel
theorem dX10_hear_56 : decode cX10_hear 56 = .ok ((.invokevirtual 229), 3) := by decide +kernel
theorem dX10_hear_59 : decode cX10_hear 59 = .ok ((.aload_n 0), 1) := by decide +kernel
theorem dX10_hear_60 : decode cX10_hear 60 = .ok ((.getfield 87), 3) := by decide +kernel
theorem dX10_hear_63 : decode cX10_hear 63 = .ok ((.aload_n 0), 1) := by decide +kernel
theorem dX10_hear_64 : decode cX10_hear 64 = .ok ((.getfield 26), 3) := by decide +kernel
theorem dX10_hear_67 : decode cX10_hear 67 = .ok ((.iload_n 1), 1) := by decide +kernel
theorem dX10_hear_68 : decode cX10_hear 68 = .ok ((.iload_n 2), 1) := by decide +kernel
theorem dX10_hear_69 : decode cX10_hear 69 = .ok ((.invokevirtual 232), 3) := by decide +kernel
theorem dX10_hear_72 : decode cX10_hear 72 = .ok ((.istore 4), 2) := by decide +kernel
theorem dX10_hear_74 : decode cX10_hear 74 = .ok ((.aload_n 0), 1) := by decide +kernel
theorem dX10_hear_75 : decode cX10_hear 75 = .ok ((.getfield 26), 3) := by decide +kernel
theorem dX10_hear_78 : decode cX10_hear 78 = .ok ((.iload_n 1), 1) := by decide +kernel
theorem dX10_hear_79 : decode cX10_hear 79 = .ok ((.iload_n 2), 1) := by decide +kernel
theorem dX10_hear_80 : decode cX10_hear 80 = .ok ((.iload 4), 2) := by decide +kernel
theorem dX10_hear_82 : decode cX10_hear 82 = .ok ((.invokevirtual 226), 3) := by decide +kernel
theorem dX10_hear_85 : decode cX10_hear 85 = .ok (.pop, 1) := by decide +kernel
theorem dX10_hear_86 : decode cX10_hear 86 = .ok ((.aload_n 0), 1) := by decide +kernel
theorem dX10_hear_87 : decode cX10_hear 87 = .ok ((.iload 4), 2) := by decide +kernel
theorem dX10_hear_89 : decode cX10_hear 89 = .ok ((.invokevirtual 173), 3) := by decide +kernel
theorem dX10_hear_92 : decode cX10_hear 92 = .ok (.ireturn, 1) := by decide +kernel
def p_X10_hear_26  (a1 : Int32) (a2 : Int32) (a3 : Int32)   (post : Int32 → vSt → Prop) (S : vSt)  : Prop := p_X10_refused  S 5 (fun r21 S20 => post r21 S20)
def p_X10_hear   (S : vSt) (a1 : Int32) (a2 : Int32) (a3 : Int32) (post : Int32 → vSt → Prop) : Prop := p_X10_areThere  S a1 a2 (fun r19 S18 => ((r19 = true → ((a3 < 0 → p_X10_hear_26 a1 a2 a3 post S18 ) ∧ (¬ a3 < 0 → ((a3 ≤ 9999 → p_X0_mayCharge 10 S18 a1 a2 (fun r21 S20 => ((r21 = true → p_X4_sow  S20 a3 (fun S22 => p_X4_jury 10 S22 a1 a2 (fun r24 S23 => p_X0_decide 10 S23 a1 a2 r24 (fun r26 S25 => p_X10_told  S25 r24 (fun r28 S27 => post r28 S27))))) ∧ (r21 = false → p_X10_refused  S20 9 (fun r30 S29 => post r30 S29))))) ∧ (¬ a3 ≤ 9999 → p_X10_hear_26 a1 a2 a3 post S18 ))))) ∧ (r19 = false → p_X10_refused  S18 2 (fun r32 S31 => post r32 S31))))
set_option maxHeartbeats 4000000 in
set_option maxRecDepth 100000 in
theorem q_X10_hear_26 {X : vX} {G : vG}  {post : Int32 → vSt → Prop} (C : v_Cx X G cX10_hear RX10 5 (v_rm 4 129)) (D : v_Rx X G (v_Qi G post) (some .int))  {a1 : Int32} {a2 : Int32} {a3 : Int32}   : ∀ (S : vSt), p_X10_hear_26 a1 a2 a3 post S  → VJ X G S 26 [(0, .ref (G.1 0))] [] := by
  intro S  h
  refine V_aload_n C 0 dX10_hear_26 rfl rfl ?_
  refine V_iconst (v := 5) C dX10_hear_27 (by decide) ?_
  refine V_callVi (As := [.int 5]) (rest := []) C (c_X10_refused (v_l X) G  _ _ h) 0 10 (by decide) (by decide) (by decide) rfl KV_X10_refused k_RX10_153 rfl rfl rfl (Nat.le_of_ble_eq_true rfl) ⟨Nat.le_of_ble_eq_true rfl, Nat.le_of_ble_eq_true rfl⟩ dX10_hear_28 (fun r21 S20 h => ?_)
  exact V_iret C D dX10_hear_31 h
set_option maxHeartbeats 4000000 in
set_option maxRecDepth 100000 in
theorem c_X10_hear (l : Launch) (G : vG)    {S : vSt} (a1 : Int32) (a2 : Int32) (a3 : Int32) (post : Int32 → vSt → Prop) (h : p_X10_hear   S a1 a2 a3 post) : Met l yX10_hear (v_ws yX10_hear cX10_hear 5 (some .int)) (v_rm 4 129) (v_Pc G [.ref (G.1 0), .int a1, .int a2, .int a3] S) (v_Qi G post) 0 0 (v_A G) := by
  refine v_start (by decide +kernel) (Nat.le_of_ble_eq_true rfl) (fun X hl C D => ?_)
  subst hl
  have C : v_Cx X G cX10_hear RX10 5 (v_rm 4 129) := C
  show VJ X G S 0 [(0, .ref (G.1 0)), (1, .int a1), (2, .int a2), (3, .int a3)] []
  refine V_aload_n C 0 dX10_hear_0 rfl rfl ?_
  refine V_iload_n C 1 dX10_hear_1 rfl rfl ?_
  refine V_iload_n C 2 dX10_hear_2 rfl rfl ?_
  refine V_callVz (As := [.int a1, .int a2]) (rest := []) C (c_X10_areThere (v_l X) G  _ _ _ h) 0 10 (by decide) (by decide) (by decide) rfl KV_X10_areThere k_RX10_216 rfl rfl rfl (Nat.le_of_ble_eq_true rfl) ⟨Nat.le_of_ble_eq_true rfl, Nat.le_of_ble_eq_true rfl⟩ dX10_hear_3 (fun r19 S18 h => ?_)
  refine V_ifb_ne (tgt := 15) C dX10_hear_6 (by decide) (fun c => ?_) (fun c => ?_)
  · have h := h.1 c
    refine V_iload_n C 3 dX10_hear_15 rfl rfl ?_
    refine V_if_lt (tgt := 26) C dX10_hear_16 (by decide) (fun c => ?_) (fun c => ?_)
    · have h := h.1 c
      refine V_loc (lv' := [(0, .ref (G.1 0))]) [0] rfl ?_
      exact q_X10_hear_26 C D  _ h
    · have h := h.2 c
      refine V_iload_n C 3 dX10_hear_19 rfl rfl ?_
      refine V_sipush (v := 9999) C dX10_hear_20 (by decide) ?_
      refine V_icmp_le (tgt := 32) C dX10_hear_23 (by decide) (fun c => ?_) (fun c => ?_)
      · have h := h.1 c
        refine V_aload_n C 0 dX10_hear_32 rfl rfl ?_
        refine V_ga C 0 (by decide) (by decide) F_10_2 k_RX10_26 dX10_hear_33 ?_
        refine V_iload_n C 1 dX10_hear_36 rfl rfl ?_
        refine V_iload_n C 2 dX10_hear_37 rfl rfl ?_
        refine V_callVz (As := [.int a1, .int a2]) (rest := []) C (c_X0_mayCharge (v_l X) G v_i10 _ _ _ h) 10 0 (by decide) (by decide) (by decide) rfl KV_X0_mayCharge k_RX10_223 rfl rfl rfl (Nat.le_of_ble_eq_true rfl) ⟨Nat.le_of_ble_eq_true rfl, Nat.le_of_ble_eq_true rfl⟩ dX10_hear_38 (fun r21 S20 h => ?_)
        refine V_ifb_ne (tgt := 51) C dX10_hear_41 (by decide) (fun c => ?_) (fun c => ?_)
        · have h := h.1 c
          refine V_aload_n C 0 dX10_hear_51 rfl rfl ?_
          refine V_ga C 0 (by decide) (by decide) F_10_10 k_RX10_87 dX10_hear_52 ?_
          refine V_iload_n C 3 dX10_hear_55 rfl rfl ?_
          refine V_callVv (As := [.int a3]) (rest := []) C (c_X4_sow (v_l X) G  _ _ h) 74 4 (by decide) (by decide) (by decide) rfl KV_X4_sow k_RX10_229 rfl rfl rfl (Nat.le_of_ble_eq_true rfl) ⟨Nat.le_of_ble_eq_true rfl, Nat.le_of_ble_eq_true rfl⟩ dX10_hear_56 (fun S22 h => ?_)
          refine V_aload_n C 0 dX10_hear_59 rfl rfl ?_
          refine V_ga C 0 (by decide) (by decide) F_10_10 k_RX10_87 dX10_hear_60 ?_
          refine V_aload_n C 0 dX10_hear_63 rfl rfl ?_
          refine V_ga C 0 (by decide) (by decide) F_10_2 k_RX10_26 dX10_hear_64 ?_
          refine V_iload_n C 1 dX10_hear_67 rfl rfl ?_
          refine V_iload_n C 2 dX10_hear_68 rfl rfl ?_
          refine V_callVi (As := [.ref (G.1 10), .int a1, .int a2]) (rest := []) C (c_X4_jury (v_l X) G v_i10 _ _ _ h) 74 4 (by decide) (by decide) (by decide) rfl KV_X4_jury k_RX10_232 rfl rfl rfl (Nat.le_of_ble_eq_true rfl) ⟨Nat.le_of_ble_eq_true rfl, Nat.le_of_ble_eq_true rfl⟩ dX10_hear_69 (fun r24 S23 h => ?_)
          refine V_istore (lv' := [(0, .ref (G.1 0)), (1, .int a1), (2, .int a2), (3, .int a3), (4, .int r24)]) C [1, 2, 3, 4, 0] dX10_hear_72 (by decide) rfl ?_
          refine V_aload_n C 0 dX10_hear_74 rfl rfl ?_
          refine V_ga C 0 (by decide) (by decide) F_10_2 k_RX10_26 dX10_hear_75 ?_
          refine V_iload_n C 1 dX10_hear_78 rfl rfl ?_
          refine V_iload_n C 2 dX10_hear_79 rfl rfl ?_
          refine V_iload C 4 dX10_hear_80 rfl ?_
          refine V_callVi (As := [.int a1, .int a2, .int r24]) (rest := []) C (c_X0_decide (v_l X) G v_i10 _ _ _ _ h) 10 0 (by decide) (by decide) (by decide) rfl KV_X0_decide k_RX10_226 rfl rfl rfl (Nat.le_of_ble_eq_true rfl) ⟨Nat.le_of_ble_eq_true rfl, Nat.le_of_ble_eq_true rfl⟩ dX10_hear_82 (fun r26 S25 h => ?_)
          refine V_pop C dX10_hear_85 rfl ?_
          refine V_aload_n C 0 dX10_hear_86 rfl rfl ?_
          refine V_iload C 4 dX10_hear_87 rfl ?_
          refine V_callVi (As := [.int r24]) (rest := []) C (c_X10_told (v_l X) G  _ _ h) 0 10 (by decide) (by decide) (by decide) rfl KV_X10_told k_RX10_173 rfl rfl rfl (Nat.le_of_ble_eq_true rfl) ⟨Nat.le_of_ble_eq_true rfl, Nat.le_of_ble_eq_true rfl⟩ dX10_hear_89 (fun r28 S27 h => ?_)
          exact V_iret C D dX10_hear_92 h
        · have h := h.2 c
          refine V_aload_n C 0 dX10_hear_44 rfl rfl ?_
          refine V_bipush (v := 9) C dX10_hear_45 (by decide) ?_
          refine V_callVi (As := [.int 9]) (rest := []) C (c_X10_refused (v_l X) G  _ _ h) 0 10 (by decide) (by decide) (by decide) rfl KV_X10_refused k_RX10_153 rfl rfl rfl (Nat.le_of_ble_eq_true rfl) ⟨Nat.le_of_ble_eq_true rfl, Nat.le_of_ble_eq_true rfl⟩ dX10_hear_47 (fun r30 S29 h => ?_)
          exact V_iret C D dX10_hear_50 h
      · have h := h.2 c
        refine V_loc (lv' := [(0, .ref (G.1 0))]) [0] rfl ?_
        exact q_X10_hear_26 C D  _ h
  · have h := h.2 c
    refine V_aload_n C 0 dX10_hear_9 rfl rfl ?_
    refine V_iconst (v := 2) C dX10_hear_10 (by decide) ?_
    refine V_callVi (As := [.int 2]) (rest := []) C (c_X10_refused (v_l X) G  _ _ h) 0 10 (by decide) (by decide) (by decide) rfl KV_X10_refused k_RX10_153 rfl rfl rfl (Nat.le_of_ble_eq_true rfl) ⟨Nat.le_of_ble_eq_true rfl, Nat.le_of_ble_eq_true rfl⟩ dX10_hear_11 (fun r32 S31 h => ?_)
    exact V_iret C D dX10_hear_14 h
/-! HalfAccuser.drop(III)I -/
theorem dX10_drop_0 : decode cX10_drop 0 = .ok ((.aload_n 0), 1) := by decide +kernel
theorem dX10_drop_1 : decode cX10_drop 1 = .ok ((.iload_n 1), 1) := by decide +kernel
theorem dX10_drop_2 : decode cX10_drop 2 = .ok ((.iload_n 2), 1) := by decide +kernel
theorem dX10_drop_3 : decode cX10_drop 3 = .ok ((.invokevirtual 216), 3) := by decide +kernel
theorem dX10_drop_6 : decode cX10_drop 6 = .ok ((.ifCond .ne 9), 3) := by decide +kernel
theorem dX10_drop_9 : decode cX10_drop 9 = .ok ((.aload_n 0), 1) := by decide +kernel
theorem dX10_drop_10 : decode cX10_drop 10 = .ok ((.iconst 2), 1) := by decide +kernel
theorem dX10_drop_11 : decode cX10_drop 11 = .ok ((.invokevirtual 153), 3) := by decide +kernel
theorem dX10_drop_14 : decode cX10_drop 14 = .ok (.ireturn, 1) := by decide +kernel
theorem dX10_drop_15 : decode cX10_drop 15 = .ok ((.iload_n 3), 1) := by decide +kernel
theorem dX10_drop_16 : decode cX10_drop 16 = .ok ((.ifCond .lt 10), 3) := by decide +kernel
theorem dX10_drop_19 : decode cX10_drop 19 = .ok ((.iload_n 3), 1) := by decide +kernel
theorem dX10_drop_20 : decode cX10_drop 20 = .ok ((.sipush 9999), 3) := by decide +kernel
theorem dX10_drop_23 : decode cX10_drop 23 = .ok ((.if_icmp .le 9), 3) := by decide +kernel
theorem dX10_drop_26 : decode cX10_drop 26 = .ok ((.aload_n 0), 1) := by decide +kernel
theorem dX10_drop_27 : decode cX10_drop 27 = .ok ((.iconst 5), 1) := by decide +kernel
theorem dX10_drop_28 : decode cX10_drop 28 = .ok ((.invokevirtual 153), 3) := by decide +kernel
theorem dX10_drop_31 : decode cX10_drop 31 = .ok (.ireturn, 1) := by decide +kernel
theorem dX10_drop_32 : decode cX10_drop 32 = .ok ((.aload_n 0), 1) := by decide +kernel
theorem dX10_drop_33 : decode cX10_drop 33 = .ok ((.getfield 26), 3) := by decide +kernel
theorem dX10_drop_36 : decode cX10_drop 36 = .ok ((.iload_n 1), 1) := by decide +kernel
theorem dX10_drop_37 : decode cX10_drop 37 = .ok ((.iload_n 2), 1) := by decide +kernel
theorem dX10_drop_38 : decode cX10_drop 38 = .ok ((.iload_n 3), 1) := by decide +kernel
theorem dX10_drop_39 : decode cX10_drop 39 = .ok ((.invokevirtual 236), 3) := by decide +kernel
theorem dX10_drop_42 : decode cX10_drop 42 = .ok ((.ifCond .ne 10), 3) := by decide +kernel
theorem dX10_drop_45 : decode cX10_drop 45 = .ok ((.aload_n 0), 1) := by decide +kernel
theorem dX10_drop_46 : decode cX10_drop 46 = .ok ((.bipush 9), 2) := by decide +kernel
theorem dX10_drop_48 : decode cX10_drop 48 = .ok ((.invokevirtual 153), 3) := by decide +kernel
theorem dX10_drop_51 : decode cX10_drop 51 = .ok (.ireturn, 1) := by decide +kernel
theorem dX10_drop_52 : decode cX10_drop 52 = .ok ((.aload_n 0), 1) := by decide +kernel
theorem dX10_drop_53 : decode cX10_drop 53 = .ok ((.getfield 26), 3) := by decide +kernel
theorem dX10_drop_56 : decode cX10_drop 56 = .ok ((.iload_n 1), 1) := by decide +kernel
theorem dX10_drop_57 : decode cX10_drop 57 = .ok ((.iload_n 2), 1) := by decide +kernel
theorem dX10_drop_58 : decode cX10_drop 58 = .ok ((.iload_n 3), 1) := by decide +kernel
theorem dX10_drop_59 : decode cX10_drop 59 = .ok ((.invokevirtual 240), 3) := by decide +kernel
theorem dX10_drop_62 : decode cX10_drop 62 = .ok ((.aload_n 0), 1) := by decide +kernel
theorem dX10_drop_63 : decode cX10_drop 63 = .ok ((.aload_n 0), 1) := by decide +kernel
theorem dX10_drop_64 : decode cX10_drop 64 = .ok ((.getfield 26), 3) := by decide +kernel
theorem dX10_drop_67 : decode cX10_drop 67 = .ok ((.getfield 209), 3) := by decide +kernel
theorem dX10_drop_70 : decode cX10_drop 70 = .ok ((.iload_n 1), 1) := by decide +kernel
theorem dX10_drop_71 : decode cX10_drop 71 = .ok ((.invokestatic 212), 3) := by decide +kernel
theorem dX10_drop_74 : decode cX10_drop 74 = .ok ((.invokevirtual 173), 3) := by decide +kernel
theorem dX10_drop_77 : decode cX10_drop 77 = .ok (.ireturn, 1) := by decide +kernel
def p_X10_drop_26  (a1 : Int32) (a2 : Int32) (a3 : Int32)   (post : Int32 → vSt → Prop) (S : vSt)  : Prop := p_X10_refused  S 5 (fun r19 S18 => post r19 S18)
def p_X10_drop   (S : vSt) (a1 : Int32) (a2 : Int32) (a3 : Int32) (post : Int32 → vSt → Prop) : Prop := p_X10_areThere  S a1 a2 (fun r17 S16 => ((r17 = true → ((a3 < 0 → p_X10_drop_26 a1 a2 a3 post S16 ) ∧ (¬ a3 < 0 → ((a3 ≤ 9999 → p_X0_mayDrop 10 S16 a1 a2 a3 (fun r19 S18 => ((r19 = true → p_X0_settle 10 S18 a1 a2 a3 (fun S20 => p_X10_at 13 8 S20 a1 (fun r22 S21 => p_X10_told  S21 r22 (fun r24 S23 => post r24 S23)))) ∧ (r19 = false → p_X10_refused  S18 9 (fun r26 S25 => post r26 S25))))) ∧ (¬ a3 ≤ 9999 → p_X10_drop_26 a1 a2 a3 post S16 ))))) ∧ (r17 = false → p_X10_refused  S16 2 (fun r28 S27 => post r28 S27))))
set_option maxHeartbeats 4000000 in
set_option maxRecDepth 100000 in
theorem q_X10_drop_26 {X : vX} {G : vG}  {post : Int32 → vSt → Prop} (C : v_Cx X G cX10_drop RX10 4 (v_rm 4 128)) (D : v_Rx X G (v_Qi G post) (some .int))  {a1 : Int32} {a2 : Int32} {a3 : Int32}   : ∀ (S : vSt), p_X10_drop_26 a1 a2 a3 post S  → VJ X G S 26 [(0, .ref (G.1 0))] [] := by
  intro S  h
  refine V_aload_n C 0 dX10_drop_26 rfl rfl ?_
  refine V_iconst (v := 5) C dX10_drop_27 (by decide) ?_
  refine V_callVi (As := [.int 5]) (rest := []) C (c_X10_refused (v_l X) G  _ _ h) 0 10 (by decide) (by decide) (by decide) rfl KV_X10_refused k_RX10_153 rfl rfl rfl (Nat.le_of_ble_eq_true rfl) ⟨Nat.le_of_ble_eq_true rfl, Nat.le_of_ble_eq_true rfl⟩ dX10_drop_28 (fun r19 S18 h => ?_)
  exact V_iret C D dX10_drop_31 h
set_option maxHeartbeats 4000000 in
set_option maxRecDepth 100000 in
theorem c_X10_drop (l : Launch) (G : vG)    {S : vSt} (a1 : Int32) (a2 : Int32) (a3 : Int32) (post : Int32 → vSt → Prop) (h : p_X10_drop   S a1 a2 a3 post) : Met l yX10_drop (v_ws yX10_drop cX10_drop 4 (some .int)) (v_rm 4 128) (v_Pc G [.ref (G.1 0), .int a1, .int a2, .int a3] S) (v_Qi G post) 0 0 (v_A G) := by
  refine v_start (by decide +kernel) (Nat.le_of_ble_eq_true rfl) (fun X hl C D => ?_)
  subst hl
  have C : v_Cx X G cX10_drop RX10 4 (v_rm 4 128) := C
  show VJ X G S 0 [(0, .ref (G.1 0)), (1, .int a1), (2, .int a2), (3, .int a3)] []
  refine V_aload_n C 0 dX10_drop_0 rfl rfl ?_
  refine V_iload_n C 1 dX10_drop_1 rfl rfl ?_
  refine V_iload_n C 2 dX10_drop_2 rfl rfl ?_
  refine V_callVz (As := [.int a1, .int a2]) (rest := []) C (c_X10_areThere (v_l X) G  _ _ _ h) 0 10 (by decide) (by decide) (by decide) rfl KV_X10_areThere k_RX10_216 rfl rfl rfl (Nat.le_of_ble_eq_true rfl) ⟨Nat.le_of_ble_eq_true rfl, Nat.le_of_ble_eq_true rfl⟩ dX10_drop_3 (fun r17 S16 h => ?_)
  refine V_ifb_ne (tgt := 15) C dX10_drop_6 (by decide) (fun c => ?_) (fun c => ?_)
  · have h := h.1 c
    refine V_iload_n C 3 dX10_drop_15 rfl rfl ?_
    refine V_if_lt (tgt := 26) C dX10_drop_16 (by decide) (fun c => ?_) (fun c => ?_)
    · have h := h.1 c
      refine V_loc (lv' := [(0, .ref (G.1 0))]) [0] rfl ?_
      exact q_X10_drop_26 C D  _ h
    · have h := h.2 c
      refine V_iload_n C 3 dX10_drop_19 rfl rfl ?_
      refine V_sipush (v := 9999) C dX10_drop_20 (by decide) ?_
      refine V_icmp_le (tgt := 32) C dX10_drop_23 (by decide) (fun c => ?_) (fun c => ?_)
      · have h := h.1 c
        refine V_aload_n C 0 dX10_drop_32 rfl rfl ?_
        refine V_ga C 0 (by decide) (by decide) F_10_2 k_RX10_26 dX10_drop_33 ?_
        refine V_iload_n C 1 dX10_drop_36 rfl rfl ?_
        refine V_iload_n C 2 dX10_drop_37 rfl rfl ?_
        refine V_iload_n C 3 dX10_drop_38 rfl rfl ?_
        refine V_callVz (As := [.int a1, .int a2, .int a3]) (rest := []) C (c_X0_mayDrop (v_l X) G v_i10 _ _ _ _ h) 10 0 (by decide) (by decide) (by decide) rfl KV_X0_mayDrop k_RX10_236 rfl rfl rfl (Nat.le_of_ble_eq_true rfl) ⟨Nat.le_of_ble_eq_true rfl, Nat.le_of_ble_eq_true rfl⟩ dX10_drop_39 (fun r19 S18 h => ?_)
        refine V_ifb_ne (tgt := 52) C dX10_drop_42 (by decide) (fun c => ?_) (fun c => ?_)
        · have h := h.1 c
          refine V_aload_n C 0 dX10_drop_52 rfl rfl ?_
          refine V_ga C 0 (by decide) (by decide) F_10_2 k_RX10_26 dX10_drop_53 ?_
          refine V_iload_n C 1 dX10_drop_56 rfl rfl ?_
          refine V_iload_n C 2 dX10_drop_57 rfl rfl ?_
          refine V_iload_n C 3 dX10_drop_58 rfl rfl ?_
          refine V_callVv (As := [.int a1, .int a2, .int a3]) (rest := []) C (c_X0_settle (v_l X) G v_i10 _ _ _ _ h) 10 0 (by decide) (by decide) (by decide) rfl KV_X0_settle k_RX10_240 rfl rfl rfl (Nat.le_of_ble_eq_true rfl) ⟨Nat.le_of_ble_eq_true rfl, Nat.le_of_ble_eq_true rfl⟩ dX10_drop_59 (fun S20 h => ?_)
          refine V_aload_n C 0 dX10_drop_62 rfl rfl ?_
          refine V_aload_n C 0 dX10_drop_63 rfl rfl ?_
          refine V_ga C 0 (by decide) (by decide) F_10_2 k_RX10_26 dX10_drop_64 ?_
          refine V_gr C 10 (by decide) (by decide) F_0_2 k_RX10_209 dX10_drop_67 ?_
          refine V_iload_n C 1 dX10_drop_70 rfl rfl ?_
          refine V_callSi (As := [.ref (G.1 13), .int a1]) (rest := [.ref (G.1 0)]) C (c_X10_at (v_l X) G (by decide) (by decide) _ _ h) KV_X10_at k_RX10_212 rfl rfl rfl (Nat.le_of_ble_eq_true rfl) ⟨Nat.le_of_ble_eq_true rfl, Nat.le_of_ble_eq_true rfl⟩ dX10_drop_71 (fun r22 S21 h => ?_)
          refine V_callVi (As := [.int r22]) (rest := []) C (c_X10_told (v_l X) G  _ _ h) 0 10 (by decide) (by decide) (by decide) rfl KV_X10_told k_RX10_173 rfl rfl rfl (Nat.le_of_ble_eq_true rfl) ⟨Nat.le_of_ble_eq_true rfl, Nat.le_of_ble_eq_true rfl⟩ dX10_drop_74 (fun r24 S23 h => ?_)
          exact V_iret C D dX10_drop_77 h
        · have h := h.2 c
          refine V_aload_n C 0 dX10_drop_45 rfl rfl ?_
          refine V_bipush (v := 9) C dX10_drop_46 (by decide) ?_
          refine V_callVi (As := [.int 9]) (rest := []) C (c_X10_refused (v_l X) G  _ _ h) 0 10 (by decide) (by decide) (by decide) rfl KV_X10_refused k_RX10_153 rfl rfl rfl (Nat.le_of_ble_eq_true rfl) ⟨Nat.le_of_ble_eq_true rfl, Nat.le_of_ble_eq_true rfl⟩ dX10_drop_48 (fun r26 S25 h => ?_)
          exact V_iret C D dX10_drop_51 h
      · have h := h.2 c
        refine V_loc (lv' := [(0, .ref (G.1 0))]) [0] rfl ?_
        exact q_X10_drop_26 C D  _ h
  · have h := h.2 c
    refine V_aload_n C 0 dX10_drop_9 rfl rfl ?_
    refine V_iconst (v := 2) C dX10_drop_10 (by decide) ?_
    refine V_callVi (As := [.int 2]) (rest := []) C (c_X10_refused (v_l X) G  _ _ h) 0 10 (by decide) (by decide) (by decide) rfl KV_X10_refused k_RX10_153 rfl rfl rfl (Nat.le_of_ble_eq_true rfl) ⟨Nat.le_of_ble_eq_true rfl, Nat.le_of_ble_eq_true rfl⟩ dX10_drop_11 (fun r28 S27 h => ?_)
    exact V_iret C D dX10_drop_14 h
/-! HalfAccuser.commit(III)I -/
theorem dX10_commit_0 : decode cX10_commit 0 = .ok ((.aload_n 0), 1) := by decide +kernel
theorem dX10_commit_1 : decode cX10_commit 1 = .ok ((.getfield 26), 3) := by decide +kernel
theorem dX10_commit_4 : decode cX10_commit 4 = .ok ((.iload_n 1), 1) := by decide +kernel
theorem dX10_commit_5 : decode cX10_commit 5 = .ok ((.invokevirtual 188), 3) := by decide +kernel
theorem dX10_commit_8 : decode cX10_commit 8 = .ok ((.ifCond .ne 9), 3) := by decide +kernel
theorem dX10_commit_11 : decode cX10_commit 11 = .ok ((.aload_n 0), 1) := by decide +kernel
theorem dX10_commit_12 : decode cX10_commit 12 = .ok ((.iconst 2), 1) := by decide +kernel
theorem dX10_commit_13 : decode cX10_commit 13 = .ok ((.invokevirtual 153), 3) := by decide +kernel
theorem dX10_commit_16 : decode cX10_commit 16 = .ok (.ireturn, 1) := by decide +kernel
theorem dX10_commit_17 : decode cX10_commit 17 = .ok ((.iload_n 2), 1) := by decide +kernel
theorem dX10_commit_18 : decode cX10_commit 18 = .ok ((.iconst 1), 1) := by decide +kernel
theorem dX10_commit_19 : decode cX10_commit 19 = .ok ((.if_icmp .lt 20), 3) := by decide +kernel
theorem dX10_commit_22 : decode cX10_commit 22 = .ok ((.iload_n 2), 1) := by decide +kernel
theorem dX10_commit_23 : decode cX10_commit 23 = .ok ((.sipush 999), 3) := by decide +kernel
theorem dX10_commit_26 : decode cX10_commit 26 = .ok ((.if_icmp .gt 13), 3) := by decide +kernel
theorem dX10_commit_29 : decode cX10_commit 29 = .ok ((.iload_n 3), 1) := by decide +kernel
theorem dX10_commit_30 : decode cX10_commit 30 = .ok ((.ifCond .lt 9), 3) := by decide +kernel
theorem dX10_commit_33 : decode cX10_commit 33 = .ok ((.iload_n 3), 1) := by decide +kernel
theorem dX10_commit_34 : decode cX10_commit 34 = .ok ((.bipush 16), 2) := by decide +kernel
theorem dX10_commit_36 : decode cX10_commit 36 = .ok ((.if_icmp .le 9), 3) := by decide +kernel
theorem dX10_commit_39 : decode cX10_commit 39 = .ok ((.aload_n 0), 1) := by decide +kernel
theorem dX10_commit_40 : decode cX10_commit 40 = .ok ((.iconst 5), 1) := by decide +kernel
theorem dX10_commit_41 : decode cX10_commit 41 = .ok ((.invokevirtual 153), 3) := by decide +kernel
theorem dX10_commit_44 : decode cX10_commit 44 = .ok (.ireturn, 1) := by decide +kernel
theorem dX10_commit_45 : decode cX10_commit 45 = .ok ((.aload_n 0), 1) := by decide +kernel
theorem dX10_commit_46 : decode cX10_commit 46 = .ok ((.getfield 26), 3) := by decide +kernel
theorem dX10_commit_49 : decode cX10_commit 49 = .ok ((.getfield 170), 3) := by decide +kernel
theorem dX10_commit_52 : decode cX10_commit 52 = .ok ((.bipush 10), 2) := by decide +kernel
theorem dX10_commit_54 : decode cX10_commit 54 = .ok ((.if_icmp .lt 10), 3) := by decide +kernel
theorem dX10_commit_57 : decode cX10_commit 57 = .ok ((.aload_n 0), 1) := by decide +kernel
theorem dX10_commit_58 : decode cX10_commit 58 = .ok ((.bipush 7), 2) := by decide +kernel
theorem dX10_commit_60 : decode cX10_commit 60 = .ok ((.invokevirtual 153), 3) := by decide +kernel
theorem dX10_commit_63 : decode cX10_commit 63 = .ok (.ireturn, 1) := by decide +kernel
theorem dX10_commit_64 : decode cX10_commit 64 = .ok ((.aload_n 0), 1) := by decide +kernel
theorem dX10_commit_65 : decode cX10_commit 65 = .ok ((.aload_n 0), 1) := by decide +kernel
theorem dX10_commit_66 : decode cX10_commit 66 = .ok ((.getfield 26), 3) := by decide +kernel
theorem dX10_commit_69 : decode cX10_commit 69 = .ok ((.lconst 0), 1) := by decide +kernel
theorem dX10_commit_70 : decode cX10_commit 70 = .ok ((.iload_n 1), 1) := by decide +kernel
theorem dX10_commit_71 : decode cX10_commit 71 = .ok ((.iload_n 2), 1) := by decide +kernel
theorem dX10_commit_72 : decode cX10_commit 72 = .ok ((.iload_n 3), 1) := by decide +kernel
theorem dX10_commit_73 : decode cX10_commit 73 = .ok ((.invokevirtual 244), 3) := by decide +kernel
theorem dX10_commit_76 : decode cX10_commit 76 = .ok ((.invokevirtual 173), 3) := by decide +kernel
theorem dX10_commit_79 : decode cX10_commit 79 = .ok (.ireturn, 1) := by decide +kernel
def p_X10_commit_39  (a1 : Int32) (a2 : Int32) (a3 : Int32)   (post : Int32 → vSt → Prop) (S : vSt)  : Prop := p_X10_refused  S 5 (fun r16 S15 => post r16 S15)
def p_X10_commit   (S : vSt) (a1 : Int32) (a2 : Int32) (a3 : Int32) (post : Int32 → vSt → Prop) : Prop := p_X0_hasPerson 10 S a1 (fun r14 S13 => ((r14 = true → ((a2 < 1 → p_X10_commit_39 a1 a2 a3 post S13 ) ∧ (¬ a2 < 1 → ((999 < a2 → p_X10_commit_39 a1 a2 a3 post S13 ) ∧ (¬ 999 < a2 → ((a3 < 0 → p_X10_commit_39 a1 a2 a3 post S13 ) ∧ (¬ a3 < 0 → ((a3 ≤ 16 → (((S13.1 10 16) < 10 → p_X0_addDeed 10 S13 0 a1 a2 a3 (fun r16 S15 => p_X10_told  S15 r16 (fun r18 S17 => post r18 S17))) ∧ (¬ (S13.1 10 16) < 10 → p_X10_refused  S13 7 (fun r20 S19 => post r20 S19)))) ∧ (¬ a3 ≤ 16 → p_X10_commit_39 a1 a2 a3 post S13 ))))))))) ∧ (r14 = false → p_X10_refused  S13 2 (fun r22 S21 => post r22 S21))))
set_option maxHeartbeats 4000000 in
set_option maxRecDepth 100000 in
theorem q_X10_commit_39 {X : vX} {G : vG}  {post : Int32 → vSt → Prop} (C : v_Cx X G cX10_commit RX10 4 (v_rm 2 89)) (D : v_Rx X G (v_Qi G post) (some .int))  {a1 : Int32} {a2 : Int32} {a3 : Int32}   : ∀ (S : vSt), p_X10_commit_39 a1 a2 a3 post S  → VJ X G S 39 [(0, .ref (G.1 0))] [] := by
  intro S  h
  refine V_aload_n C 0 dX10_commit_39 rfl rfl ?_
  refine V_iconst (v := 5) C dX10_commit_40 (by decide) ?_
  refine V_callVi (As := [.int 5]) (rest := []) C (c_X10_refused (v_l X) G  _ _ h) 0 10 (by decide) (by decide) (by decide) rfl KV_X10_refused k_RX10_153 rfl rfl rfl (Nat.le_of_ble_eq_true rfl) ⟨Nat.le_of_ble_eq_true rfl, Nat.le_of_ble_eq_true rfl⟩ dX10_commit_41 (fun r16 S15 h => ?_)
  exact V_iret C D dX10_commit_44 h
set_option maxHeartbeats 4000000 in
set_option maxRecDepth 100000 in
theorem c_X10_commit (l : Launch) (G : vG)    {S : vSt} (a1 : Int32) (a2 : Int32) (a3 : Int32) (post : Int32 → vSt → Prop) (h : p_X10_commit   S a1 a2 a3 post) : Met l yX10_commit (v_ws yX10_commit cX10_commit 4 (some .int)) (v_rm 2 89) (v_Pc G [.ref (G.1 0), .int a1, .int a2, .int a3] S) (v_Qi G post) 0 0 (v_A G) := by
  refine v_start (by decide +kernel) (Nat.le_of_ble_eq_true rfl) (fun X hl C D => ?_)
  subst hl
  have C : v_Cx X G cX10_commit RX10 4 (v_rm 2 89) := C
  show VJ X G S 0 [(0, .ref (G.1 0)), (1, .int a1), (2, .int a2), (3, .int a3)] []
  refine V_aload_n C 0 dX10_commit_0 rfl rfl ?_
  refine V_ga C 0 (by decide) (by decide) F_10_2 k_RX10_26 dX10_commit_1 ?_
  refine V_iload_n C 1 dX10_commit_4 rfl rfl ?_
  refine V_callVz (As := [.int a1]) (rest := []) C (c_X0_hasPerson (v_l X) G v_i10 _ _ h) 10 0 (by decide) (by decide) (by decide) rfl KV_X0_hasPerson k_RX10_188 rfl rfl rfl (Nat.le_of_ble_eq_true rfl) ⟨Nat.le_of_ble_eq_true rfl, Nat.le_of_ble_eq_true rfl⟩ dX10_commit_5 (fun r14 S13 h => ?_)
  refine V_ifb_ne (tgt := 17) C dX10_commit_8 (by decide) (fun c => ?_) (fun c => ?_)
  · have h := h.1 c
    refine V_iload_n C 2 dX10_commit_17 rfl rfl ?_
    refine V_iconst (v := 1) C dX10_commit_18 (by decide) ?_
    refine V_icmp_lt (tgt := 39) C dX10_commit_19 (by decide) (fun c => ?_) (fun c => ?_)
    · have h := h.1 c
      refine V_loc (lv' := [(0, .ref (G.1 0))]) [0] rfl ?_
      exact q_X10_commit_39 C D  _ h
    · have h := h.2 c
      refine V_iload_n C 2 dX10_commit_22 rfl rfl ?_
      refine V_sipush (v := 999) C dX10_commit_23 (by decide) ?_
      refine V_icmp_gt (tgt := 39) C dX10_commit_26 (by decide) (fun c => ?_) (fun c => ?_)
      · have h := h.1 c
        refine V_loc (lv' := [(0, .ref (G.1 0))]) [0] rfl ?_
        exact q_X10_commit_39 C D  _ h
      · have h := h.2 c
        refine V_iload_n C 3 dX10_commit_29 rfl rfl ?_
        refine V_if_lt (tgt := 39) C dX10_commit_30 (by decide) (fun c => ?_) (fun c => ?_)
        · have h := h.1 c
          refine V_loc (lv' := [(0, .ref (G.1 0))]) [0] rfl ?_
          exact q_X10_commit_39 C D  _ h
        · have h := h.2 c
          refine V_iload_n C 3 dX10_commit_33 rfl rfl ?_
          refine V_bipush (v := 16) C dX10_commit_34 (by decide) ?_
          refine V_icmp_le (tgt := 45) C dX10_commit_36 (by decide) (fun c => ?_) (fun c => ?_)
          · have h := h.1 c
            refine V_aload_n C 0 dX10_commit_45 rfl rfl ?_
            refine V_ga C 0 (by decide) (by decide) F_10_2 k_RX10_26 dX10_commit_46 ?_
            refine V_gi C 10 (by decide) (by decide) F_0_16 k_RX10_170 dX10_commit_49 ?_
            refine V_bipush (v := 10) C dX10_commit_52 (by decide) ?_
            refine V_icmp_lt (tgt := 64) C dX10_commit_54 (by decide) (fun c => ?_) (fun c => ?_)
            · have h := h.1 c
              refine V_aload_n C 0 dX10_commit_64 rfl rfl ?_
              refine V_aload_n C 0 dX10_commit_65 rfl rfl ?_
              refine V_ga C 0 (by decide) (by decide) F_10_2 k_RX10_26 dX10_commit_66 ?_
              refine V_lconst (v := 0) C dX10_commit_69 (by decide) ?_
              refine V_iload_n C 1 dX10_commit_70 rfl rfl ?_
              refine V_iload_n C 2 dX10_commit_71 rfl rfl ?_
              refine V_iload_n C 3 dX10_commit_72 rfl rfl ?_
              refine V_callVi (As := [.long 0, .int a1, .int a2, .int a3]) (rest := [.ref (G.1 0)]) C (c_X0_addDeed (v_l X) G v_i10 _ _ _ _ _ h) 10 0 (by decide) (by decide) (by decide) rfl KV_X0_addDeed k_RX10_244 rfl rfl rfl (Nat.le_of_ble_eq_true rfl) ⟨Nat.le_of_ble_eq_true rfl, Nat.le_of_ble_eq_true rfl⟩ dX10_commit_73 (fun r16 S15 h => ?_)
              refine V_callVi (As := [.int r16]) (rest := []) C (c_X10_told (v_l X) G  _ _ h) 0 10 (by decide) (by decide) (by decide) rfl KV_X10_told k_RX10_173 rfl rfl rfl (Nat.le_of_ble_eq_true rfl) ⟨Nat.le_of_ble_eq_true rfl, Nat.le_of_ble_eq_true rfl⟩ dX10_commit_76 (fun r18 S17 h => ?_)
              exact V_iret C D dX10_commit_79 h
            · have h := h.2 c
              refine V_aload_n C 0 dX10_commit_57 rfl rfl ?_
              refine V_bipush (v := 7) C dX10_commit_58 (by decide) ?_
              refine V_callVi (As := [.int 7]) (rest := []) C (c_X10_refused (v_l X) G  _ _ h) 0 10 (by decide) (by decide) (by decide) rfl KV_X10_refused k_RX10_153 rfl rfl rfl (Nat.le_of_ble_eq_true rfl) ⟨Nat.le_of_ble_eq_true rfl, Nat.le_of_ble_eq_true rfl⟩ dX10_commit_60 (fun r20 S19 h => ?_)
              exact V_iret C D dX10_commit_63 h
          · have h := h.2 c
            refine V_loc (lv' := [(0, .ref (G.1 0))]) [0] rfl ?_
            exact q_X10_commit_39 C D  _ h
  · have h := h.2 c
    refine V_aload_n C 0 dX10_commit_11 rfl rfl ?_
    refine V_iconst (v := 2) C dX10_commit_12 (by decide) ?_
    refine V_callVi (As := [.int 2]) (rest := []) C (c_X10_refused (v_l X) G  _ _ h) 0 10 (by decide) (by decide) (by decide) rfl KV_X10_refused k_RX10_153 rfl rfl rfl (Nat.le_of_ble_eq_true rfl) ⟨Nat.le_of_ble_eq_true rfl, Nat.le_of_ble_eq_true rfl⟩ dX10_commit_13 (fun r22 S21 h => ?_)
    exact V_iret C D dX10_commit_16 h
/-! HalfAccuser.settled(I)Z -/
theorem dX10_settled_0 : decode cX10_settled 0 = .ok ((.aload_n 0), 1) := by decide +kernel
theorem dX10_settled_1 : decode cX10_settled 1 = .ok ((.iload_n 1), 1) := by decide +kernel
theorem dX10_settled_2 : decode cX10_settled 2 = .ok ((.putfield 106), 3) := by decide +kernel
theorem dX10_settled_5 : decode cX10_settled 5 = .ok ((.iload_n 1), 1) := by decide +kernel
theorem dX10_settled_6 : decode cX10_settled 6 = .ok ((.ifCond .ne 7), 3) := by decide +kernel
theorem dX10_settled_9 : decode cX10_settled 9 = .ok ((.iconst 1), 1) := by decide +kernel
theorem dX10_settled_10 : decode cX10_settled 10 = .ok ((.goto 4), 3) := by decide +kernel
theorem dX10_settled_13 : decode cX10_settled 13 = .ok ((.iconst 0), 1) := by decide +kernel
theorem dX10_settled_14 : decode cX10_settled 14 = .ok (.ireturn, 1) := by decide +kernel
def p_X10_settled   (S : vSt) (a1 : Int32) (post : Bool → vSt → Prop) : Prop := ∀ S2, S2 = v_si S 0 14 a1 → ((¬ a1 = 0 → post false S2) ∧ (a1 = 0 → post true S2))
set_option maxHeartbeats 4000000 in
set_option maxRecDepth 100000 in
theorem c_X10_settled (l : Launch) (G : vG)    {S : vSt} (a1 : Int32) (post : Bool → vSt → Prop) (h : p_X10_settled   S a1 post) : Met l yX10_settled (v_ws yX10_settled cX10_settled 2 (some .boolean)) (v_rm 0 40) (v_Pc G [.ref (G.1 0), .int a1] S) (v_Qz G post) 0 0 (v_A G) := by
  refine v_start (by decide +kernel) (Nat.le_of_ble_eq_true rfl) (fun X hl C D => ?_)
  subst hl
  have C : v_Cx X G cX10_settled RX10 2 (v_rm 0 40) := C
  show VJ X G S 0 [(0, .ref (G.1 0)), (1, .int a1)] []
  refine V_aload_n C 0 dX10_settled_0 rfl rfl ?_
  refine V_iload_n C 1 dX10_settled_1 rfl rfl ?_
  refine V_pi C 0 (by decide) (by decide) P_10_14 k_RX10_106 dX10_settled_2 ?_
  refine V_topS (fun S2 eS2 => ?_)
  have h := h S2 eS2
  refine V_iload_n C 1 dX10_settled_5 rfl rfl ?_
  refine V_if_ne (tgt := 13) C dX10_settled_6 (by decide) (fun c => ?_) (fun c => ?_)
  · have h := h.1 c
    refine V_iconst (v := 0) C dX10_settled_13 (by decide) ?_
    exact V_zret0 C D dX10_settled_14 h
  · have h := h.2 c
    refine V_iconst (v := 1) C dX10_settled_9 (by decide) ?_
    refine V_goto (tgt := 14) C dX10_settled_10 (by decide) ?_
    exact V_zret1 C D dX10_settled_14 h
/-! HalfAccuser.reopen(I)Z -/
theorem dX10_reopen_0 : decode cX10_reopen 0 = .ok ((.aload_n 0), 1) := by decide +kernel
theorem dX10_reopen_1 : decode cX10_reopen 1 = .ok ((.getfield 26), 3) := by decide +kernel
theorem dX10_reopen_4 : decode cX10_reopen 4 = .ok ((.iload_n 1), 1) := by decide +kernel
theorem dX10_reopen_5 : decode cX10_reopen 5 = .ok ((.invokevirtual 194), 3) := by decide +kernel
theorem dX10_reopen_8 : decode cX10_reopen 8 = .ok ((.ifCond .ne 9), 3) := by decide +kernel
theorem dX10_reopen_11 : decode cX10_reopen 11 = .ok ((.aload_n 0), 1) := by decide +kernel
theorem dX10_reopen_12 : decode cX10_reopen 12 = .ok ((.iconst 2), 1) := by decide +kernel
theorem dX10_reopen_13 : decode cX10_reopen 13 = .ok ((.invokevirtual 116), 3) := by decide +kernel
theorem dX10_reopen_16 : decode cX10_reopen 16 = .ok (.ireturn, 1) := by decide +kernel
theorem dX10_reopen_17 : decode cX10_reopen 17 = .ok ((.aload_n 0), 1) := by decide +kernel
theorem dX10_reopen_18 : decode cX10_reopen 18 = .ok ((.getfield 26), 3) := by decide +kernel
theorem dX10_reopen_21 : decode cX10_reopen 21 = .ok ((.iload_n 1), 1) := by decide +kernel
theorem dX10_reopen_22 : decode cX10_reopen 22 = .ok ((.invokevirtual 197), 3) := by decide +kernel
theorem dX10_reopen_25 : decode cX10_reopen 25 = .ok ((.ifCond .eq 10), 3) := by decide +kernel
theorem dX10_reopen_28 : decode cX10_reopen 28 = .ok ((.aload_n 0), 1) := by decide +kernel
theorem dX10_reopen_29 : decode cX10_reopen 29 = .ok ((.bipush 9), 2) := by decide +kernel
theorem dX10_reopen_31 : decode cX10_reopen 31 = .ok ((.invokevirtual 116), 3) := by decide +kernel
theorem dX10_reopen_34 : decode cX10_reopen 34 = .ok (.ireturn, 1) := by decide +kernel
theorem dX10_reopen_35 : decode cX10_reopen 35 = .ok ((.aload_n 0), 1) := by decide +kernel
theorem dX10_reopen_36 : decode cX10_reopen 36 = .ok ((.getfield 26), 3) := by decide +kernel
theorem dX10_reopen_39 : decode cX10_reopen 39 = .ok ((.iload_n 1), 1) := by decide +kernel
theorem dX10_reopen_40 : decode cX10_reopen 40 = .ok ((.invokevirtual 248), 3) := by decide +kernel
theorem dX10_reopen_43 : decode cX10_reopen 43 = .ok ((.aload_n 0), 1) := by decide +kernel
theorem dX10_reopen_44 : decode cX10_reopen 44 = .ok ((.iconst 0), 1) := by decide +kernel
theorem dX10_reopen_45 : decode cX10_reopen 45 = .ok ((.invokevirtual 116), 3) := by decide +kernel
theorem dX10_reopen_48 : decode cX10_reopen 48 = .ok (.ireturn, 1) := by decide +kernel
def p_X10_reopen   (S : vSt) (a1 : Int32) (post : Bool → vSt → Prop) : Prop := p_X0_hasDeed 10 S a1 (fun r13 S12 => ((r13 = true → p_X0_isOpen 10 S12 a1 (fun r15 S14 => ((r15 = false → p_X0_openAgain 10 S14 a1 (fun S16 => p_X10_settled  S16 0 (fun r18 S17 => post r18 S17))) ∧ (r15 = true → p_X10_settled  S14 9 (fun r20 S19 => post r20 S19))))) ∧ (r13 = false → p_X10_settled  S12 2 (fun r22 S21 => post r22 S21))))
set_option maxHeartbeats 4000000 in
set_option maxRecDepth 100000 in
theorem c_X10_reopen (l : Launch) (G : vG)    {S : vSt} (a1 : Int32) (post : Bool → vSt → Prop) (h : p_X10_reopen   S a1 post) : Met l yX10_reopen (v_ws yX10_reopen cX10_reopen 2 (some .boolean)) (v_rm 2 84) (v_Pc G [.ref (G.1 0), .int a1] S) (v_Qz G post) 0 0 (v_A G) := by
  refine v_start (by decide +kernel) (Nat.le_of_ble_eq_true rfl) (fun X hl C D => ?_)
  subst hl
  have C : v_Cx X G cX10_reopen RX10 2 (v_rm 2 84) := C
  show VJ X G S 0 [(0, .ref (G.1 0)), (1, .int a1)] []
  refine V_aload_n C 0 dX10_reopen_0 rfl rfl ?_
  refine V_ga C 0 (by decide) (by decide) F_10_2 k_RX10_26 dX10_reopen_1 ?_
  refine V_iload_n C 1 dX10_reopen_4 rfl rfl ?_
  refine V_callVz (As := [.int a1]) (rest := []) C (c_X0_hasDeed (v_l X) G v_i10 _ _ h) 10 0 (by decide) (by decide) (by decide) rfl KV_X0_hasDeed k_RX10_194 rfl rfl rfl (Nat.le_of_ble_eq_true rfl) ⟨Nat.le_of_ble_eq_true rfl, Nat.le_of_ble_eq_true rfl⟩ dX10_reopen_5 (fun r13 S12 h => ?_)
  refine V_ifb_ne (tgt := 17) C dX10_reopen_8 (by decide) (fun c => ?_) (fun c => ?_)
  · have h := h.1 c
    refine V_aload_n C 0 dX10_reopen_17 rfl rfl ?_
    refine V_ga C 0 (by decide) (by decide) F_10_2 k_RX10_26 dX10_reopen_18 ?_
    refine V_iload_n C 1 dX10_reopen_21 rfl rfl ?_
    refine V_callVz (As := [.int a1]) (rest := []) C (c_X0_isOpen (v_l X) G v_i10 _ _ h) 10 0 (by decide) (by decide) (by decide) rfl KV_X0_isOpen k_RX10_197 rfl rfl rfl (Nat.le_of_ble_eq_true rfl) ⟨Nat.le_of_ble_eq_true rfl, Nat.le_of_ble_eq_true rfl⟩ dX10_reopen_22 (fun r15 S14 h => ?_)
    refine V_ifb_eq (tgt := 35) C dX10_reopen_25 (by decide) (fun c => ?_) (fun c => ?_)
    · have h := h.1 c
      refine V_aload_n C 0 dX10_reopen_35 rfl rfl ?_
      refine V_ga C 0 (by decide) (by decide) F_10_2 k_RX10_26 dX10_reopen_36 ?_
      refine V_iload_n C 1 dX10_reopen_39 rfl rfl ?_
      refine V_callVv (As := [.int a1]) (rest := []) C (c_X0_openAgain (v_l X) G v_i10 _ _ h) 10 0 (by decide) (by decide) (by decide) rfl KV_X0_openAgain k_RX10_248 rfl rfl rfl (Nat.le_of_ble_eq_true rfl) ⟨Nat.le_of_ble_eq_true rfl, Nat.le_of_ble_eq_true rfl⟩ dX10_reopen_40 (fun S16 h => ?_)
      refine V_aload_n C 0 dX10_reopen_43 rfl rfl ?_
      refine V_iconst (v := 0) C dX10_reopen_44 (by decide) ?_
      refine V_callVz (As := [.int 0]) (rest := []) C (c_X10_settled (v_l X) G  _ _ h) 0 10 (by decide) (by decide) (by decide) rfl KV_X10_settled k_RX10_116 rfl rfl rfl (Nat.le_of_ble_eq_true rfl) ⟨Nat.le_of_ble_eq_true rfl, Nat.le_of_ble_eq_true rfl⟩ dX10_reopen_45 (fun r18 S17 h => ?_)
      exact V_zret C D dX10_reopen_48 h
    · have h := h.2 c
      refine V_aload_n C 0 dX10_reopen_28 rfl rfl ?_
      refine V_bipush (v := 9) C dX10_reopen_29 (by decide) ?_
      refine V_callVz (As := [.int 9]) (rest := []) C (c_X10_settled (v_l X) G  _ _ h) 0 10 (by decide) (by decide) (by decide) rfl KV_X10_settled k_RX10_116 rfl rfl rfl (Nat.le_of_ble_eq_true rfl) ⟨Nat.le_of_ble_eq_true rfl, Nat.le_of_ble_eq_true rfl⟩ dX10_reopen_31 (fun r20 S19 h => ?_)
      exact V_zret C D dX10_reopen_34 h
  · have h := h.2 c
    refine V_aload_n C 0 dX10_reopen_11 rfl rfl ?_
    refine V_iconst (v := 2) C dX10_reopen_12 (by decide) ?_
    refine V_callVz (As := [.int 2]) (rest := []) C (c_X10_settled (v_l X) G  _ _ h) 0 10 (by decide) (by decide) (by decide) rfl KV_X10_settled k_RX10_116 rfl rfl rfl (Nat.le_of_ble_eq_true rfl) ⟨Nat.le_of_ble_eq_true rfl, Nat.le_of_ble_eq_true rfl⟩ dX10_reopen_13 (fun r22 S21 h => ?_)
    exact V_zret C D dX10_reopen_16 h
/-! HalfAccuser.can(II)I -/
theorem dX10_can_0 : decode cX10_can 0 = .ok ((.aload_n 0), 1) := by decide +kernel
theorem dX10_can_1 : decode cX10_can 1 = .ok ((.iload_n 1), 1) := by decide +kernel
theorem dX10_can_2 : decode cX10_can 2 = .ok ((.iload_n 2), 1) := by decide +kernel
theorem dX10_can_3 : decode cX10_can 3 = .ok ((.invokevirtual 216), 3) := by decide +kernel
theorem dX10_can_6 : decode cX10_can 6 = .ok ((.ifCond .ne 9), 3) := by decide +kernel
theorem dX10_can_9 : decode cX10_can 9 = .ok ((.aload_n 0), 1) := by decide +kernel
theorem dX10_can_10 : decode cX10_can 10 = .ok ((.iconst 2), 1) := by decide +kernel
theorem dX10_can_11 : decode cX10_can 11 = .ok ((.invokevirtual 153), 3) := by decide +kernel
theorem dX10_can_14 : decode cX10_can 14 = .ok (.ireturn, 1) := by decide +kernel
theorem dX10_can_15 : decode cX10_can 15 = .ok ((.aload_n 0), 1) := by decide +kernel
theorem dX10_can_16 : decode cX10_can 16 = .ok ((.aload_n 0), 1) := by decide +kernel
theorem dX10_can_17 : decode cX10_can 17 = .ok ((.getfield 26), 3) := by decide +kernel
theorem dX10_can_20 : decode cX10_can 20 = .ok ((.iload_n 1), 1) := by decide +kernel
theorem dX10_can_21 : decode cX10_can 21 = .ok ((.iload_n 2), 1) := by decide +kernel
theorem dX10_can_22 : decode cX10_can 22 = .ok ((.invokevirtual 223), 3) := by decide +kernel
theorem dX10_can_25 : decode cX10_can 25 = .ok ((.ifCond .eq 7), 3) := by decide +kernel
theorem dX10_can_28 : decode cX10_can 28 = .ok ((.iconst 1), 1) := by decide +kernel
theorem dX10_can_29 : decode cX10_can 29 = .ok ((.goto 4), 3) := by decide +kernel
theorem dX10_can_32 : decode cX10_can 32 = .ok ((.iconst 0), 1) := by decide +kernel
theorem dX10_can_33 : decode cX10_can 33 = .ok ((.invokevirtual 173), 3) := by decide +kernel
theorem dX10_can_36 : decode cX10_can 36 = .ok (.ireturn, 1) := by decide +kernel
def p_X10_can_33  (a1 : Int32) (a2 : Int32)   (post : Int32 → vSt → Prop) (S : vSt) (s0 : Bool) : Prop := p_X10_told  S (v_b s0) (fun r14 S13 => post r14 S13)
def p_X10_can   (S : vSt) (a1 : Int32) (a2 : Int32) (post : Int32 → vSt → Prop) : Prop := p_X10_areThere  S a1 a2 (fun r10 S9 => ((r10 = true → p_X0_mayCharge 10 S9 a1 a2 (fun r12 S11 => ((r12 = false → p_X10_can_33 a1 a2 post S11 false) ∧ (r12 = true → p_X10_can_33 a1 a2 post S11 true)))) ∧ (r10 = false → p_X10_refused  S9 2 (fun r14 S13 => post r14 S13))))
set_option maxHeartbeats 4000000 in
set_option maxRecDepth 100000 in
theorem q_X10_can_33 {X : vX} {G : vG}  {post : Int32 → vSt → Prop} (C : v_Cx X G cX10_can RX10 3 (v_rm 3 105)) (D : v_Rx X G (v_Qi G post) (some .int))  {a1 : Int32} {a2 : Int32}   : ∀ (S : vSt) (s0 : Bool), p_X10_can_33 a1 a2 post S s0 → VJ X G S 33 [] [.int (v_b s0), .ref (G.1 0)] := by
  intro S s0 h
  refine V_callVi (As := [.int (v_b s0)]) (rest := []) C (c_X10_told (v_l X) G  _ _ h) 0 10 (by decide) (by decide) (by decide) rfl KV_X10_told k_RX10_173 rfl rfl rfl (Nat.le_of_ble_eq_true rfl) ⟨Nat.le_of_ble_eq_true rfl, Nat.le_of_ble_eq_true rfl⟩ dX10_can_33 (fun r14 S13 h => ?_)
  exact V_iret C D dX10_can_36 h
set_option maxHeartbeats 4000000 in
set_option maxRecDepth 100000 in
theorem c_X10_can (l : Launch) (G : vG)    {S : vSt} (a1 : Int32) (a2 : Int32) (post : Int32 → vSt → Prop) (h : p_X10_can   S a1 a2 post) : Met l yX10_can (v_ws yX10_can cX10_can 3 (some .int)) (v_rm 3 105) (v_Pc G [.ref (G.1 0), .int a1, .int a2] S) (v_Qi G post) 0 0 (v_A G) := by
  refine v_start (by decide +kernel) (Nat.le_of_ble_eq_true rfl) (fun X hl C D => ?_)
  subst hl
  have C : v_Cx X G cX10_can RX10 3 (v_rm 3 105) := C
  show VJ X G S 0 [(0, .ref (G.1 0)), (1, .int a1), (2, .int a2)] []
  refine V_aload_n C 0 dX10_can_0 rfl rfl ?_
  refine V_iload_n C 1 dX10_can_1 rfl rfl ?_
  refine V_iload_n C 2 dX10_can_2 rfl rfl ?_
  refine V_callVz (As := [.int a1, .int a2]) (rest := []) C (c_X10_areThere (v_l X) G  _ _ _ h) 0 10 (by decide) (by decide) (by decide) rfl KV_X10_areThere k_RX10_216 rfl rfl rfl (Nat.le_of_ble_eq_true rfl) ⟨Nat.le_of_ble_eq_true rfl, Nat.le_of_ble_eq_true rfl⟩ dX10_can_3 (fun r10 S9 h => ?_)
  refine V_ifb_ne (tgt := 15) C dX10_can_6 (by decide) (fun c => ?_) (fun c => ?_)
  · have h := h.1 c
    refine V_aload_n C 0 dX10_can_15 rfl rfl ?_
    refine V_aload_n C 0 dX10_can_16 rfl rfl ?_
    refine V_ga C 0 (by decide) (by decide) F_10_2 k_RX10_26 dX10_can_17 ?_
    refine V_iload_n C 1 dX10_can_20 rfl rfl ?_
    refine V_iload_n C 2 dX10_can_21 rfl rfl ?_
    refine V_callVz (As := [.int a1, .int a2]) (rest := [.ref (G.1 0)]) C (c_X0_mayCharge (v_l X) G v_i10 _ _ _ h) 10 0 (by decide) (by decide) (by decide) rfl KV_X0_mayCharge k_RX10_223 rfl rfl rfl (Nat.le_of_ble_eq_true rfl) ⟨Nat.le_of_ble_eq_true rfl, Nat.le_of_ble_eq_true rfl⟩ dX10_can_22 (fun r12 S11 h => ?_)
    refine V_ifb_eq (tgt := 32) C dX10_can_25 (by decide) (fun c => ?_) (fun c => ?_)
    · have h := h.1 c
      refine V_iconst (v := 0) C dX10_can_32 (by decide) ?_
      refine V_loc (lv' := []) [] rfl ?_
      exact q_X10_can_33 C D  _ _ h
    · have h := h.2 c
      refine V_iconst (v := 1) C dX10_can_28 (by decide) ?_
      refine V_goto (tgt := 33) C dX10_can_29 (by decide) ?_
      refine V_loc (lv' := []) [] rfl ?_
      exact q_X10_can_33 C D  _ _ h
  · have h := h.2 c
    refine V_aload_n C 0 dX10_can_9 rfl rfl ?_
    refine V_iconst (v := 2) C dX10_can_10 (by decide) ?_
    refine V_callVi (As := [.int 2]) (rest := []) C (c_X10_refused (v_l X) G  _ _ h) 0 10 (by decide) (by decide) (by decide) rfl KV_X10_refused k_RX10_153 rfl rfl rfl (Nat.le_of_ble_eq_true rfl) ⟨Nat.le_of_ble_eq_true rfl, Nat.le_of_ble_eq_true rfl⟩ dX10_can_11 (fun r14 S13 h => ?_)
    exact V_iret C D dX10_can_14 h
/-! HalfAccuser.commonDivisor(JJ)J -/
theorem dX10_commonDivisor_0 : decode cX10_commonDivisor 0 = .ok ((.lload_n 0), 1) := by decide +kernel
theorem dX10_commonDivisor_1 : decode cX10_commonDivisor 1 = .ok ((.lstore 4), 2) := by decide +kernel
theorem dX10_commonDivisor_3 : decode cX10_commonDivisor 3 = .ok ((.lload_n 2), 1) := by decide +kernel
theorem dX10_commonDivisor_4 : decode cX10_commonDivisor 4 = .ok ((.lstore 6), 2) := by decide +kernel
theorem dX10_commonDivisor_6 : decode cX10_commonDivisor 6 = .ok ((.iconst 0), 1) := by decide +kernel
theorem dX10_commonDivisor_7 : decode cX10_commonDivisor 7 = .ok ((.istore 8), 2) := by decide +kernel
theorem dX10_commonDivisor_9 : decode cX10_commonDivisor 9 = .ok ((.iload 8), 2) := by decide +kernel
theorem dX10_commonDivisor_11 : decode cX10_commonDivisor 11 = .ok ((.sipush 200), 3) := by decide +kernel
theorem dX10_commonDivisor_14 : decode cX10_commonDivisor 14 = .ok ((.if_icmp .ge 31), 3) := by decide +kernel
theorem dX10_commonDivisor_17 : decode cX10_commonDivisor 17 = .ok ((.lload 6), 2) := by decide +kernel
theorem dX10_commonDivisor_19 : decode cX10_commonDivisor 19 = .ok ((.lconst 0), 1) := by decide +kernel
theorem dX10_commonDivisor_20 : decode cX10_commonDivisor 20 = .ok (.lcmp, 1) := by decide +kernel
theorem dX10_commonDivisor_21 : decode cX10_commonDivisor 21 = .ok ((.ifCond .eq 24), 3) := by decide +kernel
theorem dX10_commonDivisor_24 : decode cX10_commonDivisor 24 = .ok ((.lload 4), 2) := by decide +kernel
theorem dX10_commonDivisor_26 : decode cX10_commonDivisor 26 = .ok ((.lload 6), 2) := by decide +kernel
theorem dX10_commonDivisor_28 : decode cX10_commonDivisor 28 = .ok (.lrem, 1) := by decide +kernel
theorem dX10_commonDivisor_29 : decode cX10_commonDivisor 29 = .ok ((.lstore 9), 2) := by decide +kernel
theorem dX10_commonDivisor_31 : decode cX10_commonDivisor 31 = .ok ((.lload 6), 2) := by decide +kernel
theorem dX10_commonDivisor_33 : decode cX10_commonDivisor 33 = .ok ((.lstore 4), 2) := by decide +kernel
theorem dX10_commonDivisor_35 : decode cX10_commonDivisor 35 = .ok ((.lload 9), 2) := by decide +kernel
theorem dX10_commonDivisor_37 : decode cX10_commonDivisor 37 = .ok ((.lstore 6), 2) := by decide +kernel
theorem dX10_commonDivisor_39 : decode cX10_commonDivisor 39 = .ok ((.iinc 8 1), 3) := by decide +kernel
theorem dX10_commonDivisor_42 : decode cX10_commonDivisor 42 = .ok ((.goto (-33)), 3) := by decide +kernel
theorem dX10_commonDivisor_45 : decode cX10_commonDivisor 45 = .ok ((.lload 4), 2) := by decide +kernel
theorem dX10_commonDivisor_47 : decode cX10_commonDivisor 47 = .ok (.lreturn, 1) := by decide +kernel
def p_X10_commonDivisor_9  (a0 : Int64) (a2 : Int64)   (post : Int64 → vSt → Prop) : Nat → vSt → Int64 → Int64 → Int32 → Prop
  | 0 => fun _ _ _ _ => False
  | fu9 + 1 => fun S x4 x6 x8 => ((200 ≤ x8 → post x4 S) ∧ (¬ 200 ≤ x8 → ((x6 = 0 → post x4 S) ∧ (¬ x6 = 0 → (¬ x6 = 0 ∧ ∀ y5 : Int64, y5 = (x4 - x4 / x6 * x6) → ∀ y6 : Int32, y6 = x8 + 1 → (p_X10_commonDivisor_9 a0 a2 post fu9) S x6 y5 y6)))))
theorem e_X10_commonDivisor_9  (a0 : Int64) (a2 : Int64)   (post : Int64 → vSt → Prop) (fu9 : Nat) (S : vSt) (x4 : Int64) (x6 : Int64) (x8 : Int32) : p_X10_commonDivisor_9 a0 a2 post (fu9 + 1) S x4 x6 x8 = (((200 ≤ x8 → post x4 S) ∧ (¬ 200 ≤ x8 → ((x6 = 0 → post x4 S) ∧ (¬ x6 = 0 → (¬ x6 = 0 ∧ ∀ y5 : Int64, y5 = (x4 - x4 / x6 * x6) → ∀ y6 : Int32, y6 = x8 + 1 → (p_X10_commonDivisor_9 a0 a2 post fu9) S x6 y5 y6)))))) := rfl
def p_X10_commonDivisor   (S : vSt) (a0 : Int64) (a2 : Int64) (post : Int64 → vSt → Prop) : Prop := ∃ fu9, p_X10_commonDivisor_9 a0 a2 post fu9 S a0 a2 0
set_option maxHeartbeats 4000000 in
set_option maxRecDepth 100000 in
theorem q_X10_commonDivisor_9 {X : vX} {G : vG}  {post : Int64 → vSt → Prop} (C : v_Cx X G cX10_commonDivisor RX10 11 (v_rm 0 40)) (D : v_Rx X G (v_Ql G post) (some .long))  {a0 : Int64} {a2 : Int64}   : ∀ (fu : Nat) (S : vSt) (x4 : Int64) (x6 : Int64) (x8 : Int32), p_X10_commonDivisor_9 a0 a2 post fu S x4 x6 x8 → VJ X G S 9 [(4, .long x4), (6, .long x6), (8, .int x8)] [] := by
  intro fu
  induction fu with
  | zero => intro S x4 x6 x8 h; exact absurd h id
  | succ fu ih =>
    intro S x4 x6 x8 h
    have hK9 := ih
    rw [e_X10_commonDivisor_9] at h
    refine V_iload C 2 dX10_commonDivisor_9 rfl ?_
    refine V_sipush (v := 200) C dX10_commonDivisor_11 (by decide) ?_
    refine V_icmp_ge (tgt := 45) C dX10_commonDivisor_14 (by decide) (fun c => ?_) (fun c => ?_)
    · have h := h.1 c
      refine V_lload C 0 dX10_commonDivisor_45 rfl ?_
      exact V_lret C D dX10_commonDivisor_47 h
    · have h := h.2 c
      refine V_lload C 1 dX10_commonDivisor_17 rfl ?_
      refine V_lconst (v := 0) C dX10_commonDivisor_19 (by decide) ?_
      refine V_lcmp_eq (tgt := 45) C dX10_commonDivisor_20 dX10_commonDivisor_21 (by decide) (fun c => ?_) (fun c => ?_)
      · have h := h.1 c
        refine V_lload C 0 dX10_commonDivisor_45 rfl ?_
        exact V_lret C D dX10_commonDivisor_47 h
      · have h := h.2 c
        refine V_lload C 0 dX10_commonDivisor_24 rfl ?_
        refine V_lload C 1 dX10_commonDivisor_26 rfl ?_
        obtain ⟨hz, h⟩ := h
        refine V_lrem C dX10_commonDivisor_28 hz ?_
        refine V_topl (fun y5 ey5 => ?_)
        have h := h y5 ey5
        refine V_lstore (lv' := [(4, .long x4), (6, .long x6), (8, .int x8), (9, .long y5)]) C [1, 2, 3, 0] dX10_commonDivisor_29 (by decide) rfl ?_
        refine V_lload C 1 dX10_commonDivisor_31 rfl ?_
        refine V_lstore (lv' := [(4, .long x6), (6, .long x6), (8, .int x8), (9, .long y5)]) C [0, 1, 2, 3] dX10_commonDivisor_33 (by decide) rfl ?_
        refine V_lload C 3 dX10_commonDivisor_35 rfl ?_
        refine V_lstore (lv' := [(4, .long x6), (6, .long y5), (8, .int x8), (9, .long y5)]) C [1, 0, 2, 3] dX10_commonDivisor_37 (by decide) rfl ?_
        obtain ⟨y6, ey6⟩ : ∃ z : Int32, z = x8 + 1 := ⟨_, rfl⟩
        have h := h y6 ey6
        refine V_iinc (lv' := [(4, .long x6), (6, .long y5), (8, .int y6), (9, .long y5)]) C 2 [1, 2, 0, 3] y6 dX10_commonDivisor_39 rfl (by rw [ey6]; rfl) (by decide) rfl ?_
        refine V_goto (tgt := 9) C dX10_commonDivisor_42 (by decide) ?_
        refine V_loc (lv' := [(4, .long x6), (6, .long y5), (8, .int y6)]) [0, 1, 2] rfl ?_
        exact hK9 _ _ _ _ h
set_option maxHeartbeats 4000000 in
set_option maxRecDepth 100000 in
theorem c_X10_commonDivisor (l : Launch) (G : vG)    {S : vSt} (a0 : Int64) (a2 : Int64) (post : Int64 → vSt → Prop) (h : p_X10_commonDivisor   S a0 a2 post) : Met l yX10_commonDivisor (v_ws yX10_commonDivisor cX10_commonDivisor 11 (some .long)) (v_rm 0 40) (v_Pc G [.long a0, .long a2] S) (v_Ql G post) 0 0 (v_A G) := by
  refine v_start (by decide +kernel) (Nat.le_of_ble_eq_true rfl) (fun X hl C D => ?_)
  subst hl
  have C : v_Cx X G cX10_commonDivisor RX10 11 (v_rm 0 40) := C
  show VJ X G S 0 [(0, .long a0), (2, .long a2)] []
  refine V_lload_n C 0 dX10_commonDivisor_0 rfl rfl ?_
  refine V_lstore (lv' := [(0, .long a0), (2, .long a2), (4, .long a0)]) C [1, 2, 0] dX10_commonDivisor_1 (by decide) rfl ?_
  refine V_lload_n C 1 dX10_commonDivisor_3 rfl rfl ?_
  refine V_lstore (lv' := [(0, .long a0), (2, .long a2), (4, .long a0), (6, .long a2)]) C [1, 2, 3, 0] dX10_commonDivisor_4 (by decide) rfl ?_
  refine V_iconst (v := 0) C dX10_commonDivisor_6 (by decide) ?_
  refine V_istore (lv' := [(0, .long a0), (2, .long a2), (4, .long a0), (6, .long a2), (8, .int 0)]) C [1, 2, 3, 4, 0] dX10_commonDivisor_7 (by decide) rfl ?_
  refine V_loc (lv' := [(4, .long a0), (6, .long a2), (8, .int 0)]) [2, 3, 4] rfl ?_
  obtain ⟨fu9, h⟩ := h
  exact q_X10_commonDivisor_9 C D  fu9 _ _ _ _ h
/-! HalfAccuser.tell(JJ)Z -/
theorem dX10_tell_0 : decode cX10_tell 0 = .ok ((.lload_n 1), 1) := by decide +kernel
theorem dX10_tell_1 : decode cX10_tell 1 = .ok ((.invokestatic 436), 3) := by decide +kernel
theorem dX10_tell_4 : decode cX10_tell 4 = .ok ((.lload_n 3), 1) := by decide +kernel
theorem dX10_tell_5 : decode cX10_tell 5 = .ok ((.invokestatic 442), 3) := by decide +kernel
theorem dX10_tell_8 : decode cX10_tell 8 = .ok ((.lstore 5), 2) := by decide +kernel
theorem dX10_tell_10 : decode cX10_tell 10 = .ok ((.lload 5), 2) := by decide +kernel
theorem dX10_tell_12 : decode cX10_tell 12 = .ok ((.lconst 0), 1) := by decide +kernel
theorem dX10_tell_13 : decode cX10_tell 13 = .ok (.lcmp, 1) := by decide +kernel
theorem dX10_tell_14 : decode cX10_tell 14 = .ok ((.ifCond .le 19), 3) := by decide +kernel
theorem dX10_tell_17 : decode cX10_tell 17 = .ok ((.aload_n 0), 1) := by decide +kernel
theorem dX10_tell_18 : decode cX10_tell 18 = .ok ((.lload_n 1), 1) := by decide +kernel
theorem dX10_tell_19 : decode cX10_tell 19 = .ok ((.lload 5), 2) := by decide +kernel
theorem dX10_tell_21 : decode cX10_tell 21 = .ok (.ldiv, 1) := by decide +kernel
theorem dX10_tell_22 : decode cX10_tell 22 = .ok ((.putfield 109), 3) := by decide +kernel
theorem dX10_tell_25 : decode cX10_tell 25 = .ok ((.aload_n 0), 1) := by decide +kernel
theorem dX10_tell_26 : decode cX10_tell 26 = .ok ((.lload_n 3), 1) := by decide +kernel
theorem dX10_tell_27 : decode cX10_tell 27 = .ok ((.lload 5), 2) := by decide +kernel
theorem dX10_tell_29 : decode cX10_tell 29 = .ok (.ldiv, 1) := by decide +kernel
theorem dX10_tell_30 : decode cX10_tell 30 = .ok ((.putfield 102), 3) := by decide +kernel
theorem dX10_tell_33 : decode cX10_tell 33 = .ok ((.aload_n 0), 1) := by decide +kernel
theorem dX10_tell_34 : decode cX10_tell 34 = .ok ((.iconst 0), 1) := by decide +kernel
theorem dX10_tell_35 : decode cX10_tell 35 = .ok ((.invokevirtual 116), 3) := by decide +kernel
theorem dX10_tell_38 : decode cX10_tell 38 = .ok (.ireturn, 1) := by decide +kernel
def p_X10_tell_33  (a1 : Int64) (a3 : Int64)   (post : Bool → vSt → Prop) (S : vSt)  : Prop := p_X10_settled  S 0 (fun r10 S9 => post r10 S9)
def p_X10_tell   (S : vSt) (a1 : Int64) (a3 : Int64) (post : Bool → vSt → Prop) : Prop := p_X10_commonDivisor  S (v_absl a1) a3 (fun r8 S7 => ((r8 ≤ 0 → p_X10_tell_33 a1 a3 post S7 ) ∧ (¬ r8 ≤ 0 → (¬ r8 = 0 ∧ ∀ S9, S9 = v_sl S7 0 17 (a1 / r8) → (¬ r8 = 0 ∧ ∀ S10, S10 = v_sl S9 0 18 (a3 / r8) → p_X10_tell_33 a1 a3 post S10 )))))
set_option maxHeartbeats 4000000 in
set_option maxRecDepth 100000 in
theorem q_X10_tell_33 {X : vX} {G : vG}  {post : Bool → vSt → Prop} (C : v_Cx X G cX10_tell RX10 7 (v_rm 1 70)) (D : v_Rx X G (v_Qz G post) (some .boolean))  {a1 : Int64} {a3 : Int64}   : ∀ (S : vSt), p_X10_tell_33 a1 a3 post S  → VJ X G S 33 [(0, .ref (G.1 0))] [] := by
  intro S  h
  refine V_aload_n C 0 dX10_tell_33 rfl rfl ?_
  refine V_iconst (v := 0) C dX10_tell_34 (by decide) ?_
  refine V_callVz (As := [.int 0]) (rest := []) C (c_X10_settled (v_l X) G  _ _ h) 0 10 (by decide) (by decide) (by decide) rfl KV_X10_settled k_RX10_116 rfl rfl rfl (Nat.le_of_ble_eq_true rfl) ⟨Nat.le_of_ble_eq_true rfl, Nat.le_of_ble_eq_true rfl⟩ dX10_tell_35 (fun r10 S9 h => ?_)
  exact V_zret C D dX10_tell_38 h
set_option maxHeartbeats 4000000 in
set_option maxRecDepth 100000 in
theorem c_X10_tell (l : Launch) (G : vG)    {S : vSt} (a1 : Int64) (a3 : Int64) (post : Bool → vSt → Prop) (h : p_X10_tell   S a1 a3 post) : Met l yX10_tell (v_ws yX10_tell cX10_tell 7 (some .boolean)) (v_rm 1 70) (v_Pc G [.ref (G.1 0), .long a1, .long a3] S) (v_Qz G post) 0 0 (v_A G) := by
  refine v_start (by decide +kernel) (Nat.le_of_ble_eq_true rfl) (fun X hl C D => ?_)
  subst hl
  have C : v_Cx X G cX10_tell RX10 7 (v_rm 1 70) := C
  show VJ X G S 0 [(0, .ref (G.1 0)), (1, .long a1), (3, .long a3)] []
  refine V_lload_n C 1 dX10_tell_0 rfl rfl ?_
  refine V_absl C k_RX10_436 (Nat.le_of_ble_eq_true rfl) ⟨Nat.le_of_ble_eq_true rfl, Nat.le_of_ble_eq_true rfl⟩ dX10_tell_1 ?_
  refine V_lload_n C 2 dX10_tell_4 rfl rfl ?_
  refine V_callSl (As := [.long (v_absl a1), .long a3]) (rest := []) C (c_X10_commonDivisor (v_l X) G  _ _ _ h) KV_X10_commonDivisor k_RX10_442 rfl rfl rfl (Nat.le_of_ble_eq_true rfl) ⟨Nat.le_of_ble_eq_true rfl, Nat.le_of_ble_eq_true rfl⟩ dX10_tell_5 (fun r8 S7 h => ?_)
  refine V_lstore (lv' := [(0, .ref (G.1 0)), (1, .long a1), (3, .long a3), (5, .long r8)]) C [1, 2, 3, 0] dX10_tell_8 (by decide) rfl ?_
  refine V_lload C 3 dX10_tell_10 rfl ?_
  refine V_lconst (v := 0) C dX10_tell_12 (by decide) ?_
  refine V_lcmp_le (tgt := 33) C dX10_tell_13 dX10_tell_14 (by decide) (fun c => ?_) (fun c => ?_)
  · have h := h.1 c
    refine V_loc (lv' := [(0, .ref (G.1 0))]) [0] rfl ?_
    exact q_X10_tell_33 C D  _ h
  · have h := h.2 c
    refine V_aload_n C 0 dX10_tell_17 rfl rfl ?_
    refine V_lload_n C 1 dX10_tell_18 rfl rfl ?_
    refine V_lload C 3 dX10_tell_19 rfl ?_
    obtain ⟨hz, h⟩ := h
    refine V_ldiv C dX10_tell_21 hz ?_
    refine V_pl C 0 (by decide) (by decide) P_10_17 k_RX10_109 dX10_tell_22 ?_
    refine V_topS (fun S9 eS9 => ?_)
    have h := h S9 eS9
    refine V_aload_n C 0 dX10_tell_25 rfl rfl ?_
    refine V_lload_n C 2 dX10_tell_26 rfl rfl ?_
    refine V_lload C 3 dX10_tell_27 rfl ?_
    obtain ⟨hz, h⟩ := h
    refine V_ldiv C dX10_tell_29 hz ?_
    refine V_pl C 0 (by decide) (by decide) P_10_18 k_RX10_102 dX10_tell_30 ?_
    refine V_topS (fun S10 eS10 => ?_)
    have h := h S10 eS10
    refine V_loc (lv' := [(0, .ref (G.1 0))]) [0] rfl ?_
    exact q_X10_tell_33 C D  _ h
/-! HalfAccuser.voteStatus(II)I -/
theorem dX10_voteStatus_0 : decode cX10_voteStatus 0 = .ok ((.aload_n 0), 1) := by decide +kernel
theorem dX10_voteStatus_1 : decode cX10_voteStatus 1 = .ok ((.iload_n 1), 1) := by decide +kernel
theorem dX10_voteStatus_2 : decode cX10_voteStatus 2 = .ok ((.iload_n 2), 1) := by decide +kernel
theorem dX10_voteStatus_3 : decode cX10_voteStatus 3 = .ok ((.invokevirtual 216), 3) := by decide +kernel
theorem dX10_voteStatus_6 : decode cX10_voteStatus 6 = .ok ((.ifCond .ne 5), 3) := by decide +kernel
theorem dX10_voteStatus_9 : decode cX10_voteStatus 9 = .ok ((.iconst 2), 1) := by decide +kernel
theorem dX10_voteStatus_10 : decode cX10_voteStatus 10 = .ok (.ireturn, 1) := by decide +kernel
theorem dX10_voteStatus_11 : decode cX10_voteStatus 11 = .ok ((.aload_n 0), 1) := by decide +kernel
theorem dX10_voteStatus_12 : decode cX10_voteStatus 12 = .ok ((.getfield 26), 3) := by decide +kernel
theorem dX10_voteStatus_15 : decode cX10_voteStatus 15 = .ok ((.iload_n 1), 1) := by decide +kernel
theorem dX10_voteStatus_16 : decode cX10_voteStatus 16 = .ok ((.iload_n 2), 1) := by decide +kernel
theorem dX10_voteStatus_17 : decode cX10_voteStatus 17 = .ok ((.invokevirtual 277), 3) := by decide +kernel
theorem dX10_voteStatus_20 : decode cX10_voteStatus 20 = .ok ((.ifCond .eq 8), 3) := by decide +kernel
theorem dX10_voteStatus_23 : decode cX10_voteStatus 23 = .ok ((.bipush 9), 2) := by decide +kernel
theorem dX10_voteStatus_25 : decode cX10_voteStatus 25 = .ok ((.goto 4), 3) := by decide +kernel
theorem dX10_voteStatus_28 : decode cX10_voteStatus 28 = .ok ((.iconst 0), 1) := by decide +kernel
theorem dX10_voteStatus_29 : decode cX10_voteStatus 29 = .ok (.ireturn, 1) := by decide +kernel
def p_X10_voteStatus   (S : vSt) (a1 : Int32) (a2 : Int32) (post : Int32 → vSt → Prop) : Prop := p_X10_areThere  S a1 a2 (fun r6 S5 => ((r6 = true → p_X0_isOwn 10 S5 a1 a2 (fun r8 S7 => ((r8 = false → post 0 S7) ∧ (r8 = true → post 9 S7)))) ∧ (r6 = false → post 2 S5)))
set_option maxHeartbeats 4000000 in
set_option maxRecDepth 100000 in
theorem c_X10_voteStatus (l : Launch) (G : vG)    {S : vSt} (a1 : Int32) (a2 : Int32) (post : Int32 → vSt → Prop) (h : p_X10_voteStatus   S a1 a2 post) : Met l yX10_voteStatus (v_ws yX10_voteStatus cX10_voteStatus 3 (some .int)) (v_rm 2 83) (v_Pc G [.ref (G.1 0), .int a1, .int a2] S) (v_Qi G post) 0 0 (v_A G) := by
  refine v_start (by decide +kernel) (Nat.le_of_ble_eq_true rfl) (fun X hl C D => ?_)
  subst hl
  have C : v_Cx X G cX10_voteStatus RX10 3 (v_rm 2 83) := C
  show VJ X G S 0 [(0, .ref (G.1 0)), (1, .int a1), (2, .int a2)] []
  refine V_aload_n C 0 dX10_voteStatus_0 rfl rfl ?_
  refine V_iload_n C 1 dX10_voteStatus_1 rfl rfl ?_
  refine V_iload_n C 2 dX10_voteStatus_2 rfl rfl ?_
  refine V_callVz (As := [.int a1, .int a2]) (rest := []) C (c_X10_areThere (v_l X) G  _ _ _ h) 0 10 (by decide) (by decide) (by decide) rfl KV_X10_areThere k_RX10_216 rfl rfl rfl (Nat.le_of_ble_eq_true rfl) ⟨Nat.le_of_ble_eq_true rfl, Nat.le_of_ble_eq_true rfl⟩ dX10_voteStatus_3 (fun r6 S5 h => ?_)
  refine V_ifb_ne (tgt := 11) C dX10_voteStatus_6 (by decide) (fun c => ?_) (fun c => ?_)
  · have h := h.1 c
    refine V_aload_n C 0 dX10_voteStatus_11 rfl rfl ?_
    refine V_ga C 0 (by decide) (by decide) F_10_2 k_RX10_26 dX10_voteStatus_12 ?_
    refine V_iload_n C 1 dX10_voteStatus_15 rfl rfl ?_
    refine V_iload_n C 2 dX10_voteStatus_16 rfl rfl ?_
    refine V_callVz (As := [.int a1, .int a2]) (rest := []) C (c_X0_isOwn (v_l X) G v_i10 _ _ _ h) 10 0 (by decide) (by decide) (by decide) rfl KV_X0_isOwn k_RX10_277 rfl rfl rfl (Nat.le_of_ble_eq_true rfl) ⟨Nat.le_of_ble_eq_true rfl, Nat.le_of_ble_eq_true rfl⟩ dX10_voteStatus_17 (fun r8 S7 h => ?_)
    refine V_ifb_eq (tgt := 28) C dX10_voteStatus_20 (by decide) (fun c => ?_) (fun c => ?_)
    · have h := h.1 c
      refine V_iconst (v := 0) C dX10_voteStatus_28 (by decide) ?_
      exact V_iret C D dX10_voteStatus_29 h
    · have h := h.2 c
      refine V_bipush (v := 9) C dX10_voteStatus_23 (by decide) ?_
      refine V_goto (tgt := 29) C dX10_voteStatus_25 (by decide) ?_
      exact V_iret C D dX10_voteStatus_29 h
  · have h := h.2 c
    refine V_iconst (v := 2) C dX10_voteStatus_9 (by decide) ?_
    exact V_iret C D dX10_voteStatus_10 h
/-! HalfAccuser.wins(II)Z -/
theorem dX10_wins_0 : decode cX10_wins 0 = .ok ((.aload_n 0), 1) := by decide +kernel
theorem dX10_wins_1 : decode cX10_wins 1 = .ok ((.iload_n 1), 1) := by decide +kernel
theorem dX10_wins_2 : decode cX10_wins 2 = .ok ((.iload_n 2), 1) := by decide +kernel
theorem dX10_wins_3 : decode cX10_wins 3 = .ok ((.invokevirtual 271), 3) := by decide +kernel
theorem dX10_wins_6 : decode cX10_wins 6 = .ok ((.istore_n 3), 1) := by decide +kernel
theorem dX10_wins_7 : decode cX10_wins 7 = .ok ((.iload_n 3), 1) := by decide +kernel
theorem dX10_wins_8 : decode cX10_wins 8 = .ok ((.ifCond .eq 9), 3) := by decide +kernel
theorem dX10_wins_11 : decode cX10_wins 11 = .ok ((.aload_n 0), 1) := by decide +kernel
theorem dX10_wins_12 : decode cX10_wins 12 = .ok ((.iload_n 3), 1) := by decide +kernel
theorem dX10_wins_13 : decode cX10_wins 13 = .ok ((.invokevirtual 116), 3) := by decide +kernel
theorem dX10_wins_16 : decode cX10_wins 16 = .ok (.ireturn, 1) := by decide +kernel
theorem dX10_wins_17 : decode cX10_wins 17 = .ok ((.aload_n 0), 1) := by decide +kernel
theorem dX10_wins_18 : decode cX10_wins 18 = .ok ((.getfield 64), 3) := by decide +kernel
theorem dX10_wins_21 : decode cX10_wins 21 = .ok ((.aload_n 0), 1) := by decide +kernel
theorem dX10_wins_22 : decode cX10_wins 22 = .ok ((.getfield 26), 3) := by decide +kernel
theorem dX10_wins_25 : decode cX10_wins 25 = .ok ((.iload_n 1), 1) := by decide +kernel
theorem dX10_wins_26 : decode cX10_wins 26 = .ok ((.iload_n 2), 1) := by decide +kernel
theorem dX10_wins_27 : decode cX10_wins 27 = .ok ((.invokevirtual 274), 3) := by decide +kernel
theorem dX10_wins_30 : decode cX10_wins 30 = .ok ((.invokevirtual 280), 3) := by decide +kernel
theorem dX10_wins_33 : decode cX10_wins 33 = .ok ((.aload_n 0), 1) := by decide +kernel
theorem dX10_wins_34 : decode cX10_wins 34 = .ok ((.aload_n 0), 1) := by decide +kernel
theorem dX10_wins_35 : decode cX10_wins 35 = .ok ((.getfield 64), 3) := by decide +kernel
theorem dX10_wins_38 : decode cX10_wins 38 = .ok ((.invokevirtual 298), 3) := by decide +kernel
theorem dX10_wins_41 : decode cX10_wins 41 = .ok ((.aload_n 0), 1) := by decide +kernel
theorem dX10_wins_42 : decode cX10_wins 42 = .ok ((.getfield 64), 3) := by decide +kernel
theorem dX10_wins_45 : decode cX10_wins 45 = .ok ((.invokevirtual 290), 3) := by decide +kernel
theorem dX10_wins_48 : decode cX10_wins 48 = .ok ((.invokevirtual 294), 3) := by decide +kernel
theorem dX10_wins_51 : decode cX10_wins 51 = .ok (.ireturn, 1) := by decide +kernel
def p_X10_wins   (S : vSt) (a1 : Int32) (a2 : Int32) (post : Bool → vSt → Prop) : Prop := p_X10_voteStatus  S a1 a2 (fun r15 S14 => ((r15 = 0 → p_X0_chanceOf 10 S14 a1 a2 (fun r17 S16 => p_X3_weigh  S16 r17 (fun S18 => p_X3_waysToWin  S18  (fun r20 S19 => p_X3_whole  S19  (fun r22 S21 => p_X10_tell  S21 r20 r22 (fun r24 S23 => post r24 S23)))))) ∧ (¬ r15 = 0 → p_X10_settled  S14 r15 (fun r26 S25 => post r26 S25))))
set_option maxHeartbeats 4000000 in
set_option maxRecDepth 100000 in
theorem c_X10_wins (l : Launch) (G : vG)    {S : vSt} (a1 : Int32) (a2 : Int32) (post : Bool → vSt → Prop) (h : p_X10_wins   S a1 a2 post) : Met l yX10_wins (v_ws yX10_wins cX10_wins 4 (some .boolean)) (v_rm 3 106) (v_Pc G [.ref (G.1 0), .int a1, .int a2] S) (v_Qz G post) 0 0 (v_A G) := by
  refine v_start (by decide +kernel) (Nat.le_of_ble_eq_true rfl) (fun X hl C D => ?_)
  subst hl
  have C : v_Cx X G cX10_wins RX10 4 (v_rm 3 106) := C
  show VJ X G S 0 [(0, .ref (G.1 0)), (1, .int a1), (2, .int a2)] []
  refine V_aload_n C 0 dX10_wins_0 rfl rfl ?_
  refine V_iload_n C 1 dX10_wins_1 rfl rfl ?_
  refine V_iload_n C 2 dX10_wins_2 rfl rfl ?_
  refine V_callVi (As := [.int a1, .int a2]) (rest := []) C (c_X10_voteStatus (v_l X) G  _ _ _ h) 0 10 (by decide) (by decide) (by decide) rfl KV_X10_voteStatus k_RX10_271 rfl rfl rfl (Nat.le_of_ble_eq_true rfl) ⟨Nat.le_of_ble_eq_true rfl, Nat.le_of_ble_eq_true rfl⟩ dX10_wins_3 (fun r15 S14 h => ?_)
  refine V_istore_n (lv' := [(0, .ref (G.1 0)), (1, .int a1), (2, .int a2), (3, .int r15)]) C [1, 2, 3, 0] dX10_wins_6 rfl (by decide) rfl ?_
  refine V_iload_n C 3 dX10_wins_7 rfl rfl ?_
  refine V_if_eq (tgt := 17) C dX10_wins_8 (by decide) (fun c => ?_) (fun c => ?_)
  · have h := h.1 c
    refine V_aload_n C 0 dX10_wins_17 rfl rfl ?_
    refine V_ga C 0 (by decide) (by decide) F_10_7 k_RX10_64 dX10_wins_18 ?_
    refine V_aload_n C 0 dX10_wins_21 rfl rfl ?_
    refine V_ga C 0 (by decide) (by decide) F_10_2 k_RX10_26 dX10_wins_22 ?_
    refine V_iload_n C 1 dX10_wins_25 rfl rfl ?_
    refine V_iload_n C 2 dX10_wins_26 rfl rfl ?_
    refine V_callVi (As := [.int a1, .int a2]) (rest := [.ref (G.1 58)]) C (c_X0_chanceOf (v_l X) G v_i10 _ _ _ h) 10 0 (by decide) (by decide) (by decide) rfl KV_X0_chanceOf k_RX10_274 rfl rfl rfl (Nat.le_of_ble_eq_true rfl) ⟨Nat.le_of_ble_eq_true rfl, Nat.le_of_ble_eq_true rfl⟩ dX10_wins_27 (fun r17 S16 h => ?_)
    refine V_callVv (As := [.int r17]) (rest := []) C (c_X3_weigh (v_l X) G  _ _ h) 58 3 (by decide) (by decide) (by decide) rfl KV_X3_weigh k_RX10_280 rfl rfl rfl (Nat.le_of_ble_eq_true rfl) ⟨Nat.le_of_ble_eq_true rfl, Nat.le_of_ble_eq_true rfl⟩ dX10_wins_30 (fun S18 h => ?_)
    refine V_aload_n C 0 dX10_wins_33 rfl rfl ?_
    refine V_aload_n C 0 dX10_wins_34 rfl rfl ?_
    refine V_ga C 0 (by decide) (by decide) F_10_7 k_RX10_64 dX10_wins_35 ?_
    refine V_callVl (As := []) (rest := [.ref (G.1 0)]) C (c_X3_waysToWin (v_l X) G  _ h) 58 3 (by decide) (by decide) (by decide) rfl KV_X3_waysToWin k_RX10_298 rfl rfl rfl (Nat.le_of_ble_eq_true rfl) ⟨Nat.le_of_ble_eq_true rfl, Nat.le_of_ble_eq_true rfl⟩ dX10_wins_38 (fun r20 S19 h => ?_)
    refine V_aload_n C 0 dX10_wins_41 rfl rfl ?_
    refine V_ga C 0 (by decide) (by decide) F_10_7 k_RX10_64 dX10_wins_42 ?_
    refine V_callVl (As := []) (rest := [.long r20, .ref (G.1 0)]) C (c_X3_whole (v_l X) G  _ h) 58 3 (by decide) (by decide) (by decide) rfl KV_X3_whole k_RX10_290 rfl rfl rfl (Nat.le_of_ble_eq_true rfl) ⟨Nat.le_of_ble_eq_true rfl, Nat.le_of_ble_eq_true rfl⟩ dX10_wins_45 (fun r22 S21 h => ?_)
    refine V_callVz (As := [.long r20, .long r22]) (rest := []) C (c_X10_tell (v_l X) G  _ _ _ h) 0 10 (by decide) (by decide) (by decide) rfl KV_X10_tell k_RX10_294 rfl rfl rfl (Nat.le_of_ble_eq_true rfl) ⟨Nat.le_of_ble_eq_true rfl, Nat.le_of_ble_eq_true rfl⟩ dX10_wins_48 (fun r24 S23 h => ?_)
    exact V_zret C D dX10_wins_51 h
  · have h := h.2 c
    refine V_aload_n C 0 dX10_wins_11 rfl rfl ?_
    refine V_iload_n C 3 dX10_wins_12 rfl rfl ?_
    refine V_callVz (As := [.int r15]) (rest := []) C (c_X10_settled (v_l X) G  _ _ h) 0 10 (by decide) (by decide) (by decide) rfl KV_X10_settled k_RX10_116 rfl rfl rfl (Nat.le_of_ble_eq_true rfl) ⟨Nat.le_of_ble_eq_true rfl, Nat.le_of_ble_eq_true rfl⟩ dX10_wins_13 (fun r26 S25 h => ?_)
    exact V_zret C D dX10_wins_16 h
/-! HalfAccuser.owes(II)Z -/
theorem dX10_owes_0 : decode cX10_owes 0 = .ok ((.aload_n 0), 1) := by decide +kernel
theorem dX10_owes_1 : decode cX10_owes 1 = .ok ((.iload_n 1), 1) := by decide +kernel
theorem dX10_owes_2 : decode cX10_owes 2 = .ok ((.iload_n 2), 1) := by decide +kernel
theorem dX10_owes_3 : decode cX10_owes 3 = .ok ((.invokevirtual 271), 3) := by decide +kernel
theorem dX10_owes_6 : decode cX10_owes 6 = .ok ((.istore_n 3), 1) := by decide +kernel
theorem dX10_owes_7 : decode cX10_owes 7 = .ok ((.iload_n 3), 1) := by decide +kernel
theorem dX10_owes_8 : decode cX10_owes 8 = .ok ((.ifCond .eq 9), 3) := by decide +kernel
theorem dX10_owes_11 : decode cX10_owes 11 = .ok ((.aload_n 0), 1) := by decide +kernel
theorem dX10_owes_12 : decode cX10_owes 12 = .ok ((.iload_n 3), 1) := by decide +kernel
theorem dX10_owes_13 : decode cX10_owes 13 = .ok ((.invokevirtual 116), 3) := by decide +kernel
theorem dX10_owes_16 : decode cX10_owes 16 = .ok (.ireturn, 1) := by decide +kernel
theorem dX10_owes_17 : decode cX10_owes 17 = .ok ((.aload_n 0), 1) := by decide +kernel
theorem dX10_owes_18 : decode cX10_owes 18 = .ok ((.getfield 64), 3) := by decide +kernel
theorem dX10_owes_21 : decode cX10_owes 21 = .ok ((.aload_n 0), 1) := by decide +kernel
theorem dX10_owes_22 : decode cX10_owes 22 = .ok ((.getfield 26), 3) := by decide +kernel
theorem dX10_owes_25 : decode cX10_owes 25 = .ok ((.iload_n 1), 1) := by decide +kernel
theorem dX10_owes_26 : decode cX10_owes 26 = .ok ((.iload_n 2), 1) := by decide +kernel
theorem dX10_owes_27 : decode cX10_owes 27 = .ok ((.invokevirtual 274), 3) := by decide +kernel
theorem dX10_owes_30 : decode cX10_owes 30 = .ok ((.invokevirtual 280), 3) := by decide +kernel
theorem dX10_owes_33 : decode cX10_owes 33 = .ok ((.aload_n 0), 1) := by decide +kernel
theorem dX10_owes_34 : decode cX10_owes 34 = .ok ((.aload_n 0), 1) := by decide +kernel
theorem dX10_owes_35 : decode cX10_owes 35 = .ok ((.getfield 64), 3) := by decide +kernel
theorem dX10_owes_38 : decode cX10_owes 38 = .ok ((.invokevirtual 301), 3) := by decide +kernel
theorem dX10_owes_41 : decode cX10_owes 41 = .ok ((.aload_n 0), 1) := by decide +kernel
theorem dX10_owes_42 : decode cX10_owes 42 = .ok ((.getfield 64), 3) := by decide +kernel
theorem dX10_owes_45 : decode cX10_owes 45 = .ok ((.invokevirtual 290), 3) := by decide +kernel
theorem dX10_owes_48 : decode cX10_owes 48 = .ok ((.invokevirtual 294), 3) := by decide +kernel
theorem dX10_owes_51 : decode cX10_owes 51 = .ok (.ireturn, 1) := by decide +kernel
def p_X10_owes   (S : vSt) (a1 : Int32) (a2 : Int32) (post : Bool → vSt → Prop) : Prop := p_X10_voteStatus  S a1 a2 (fun r15 S14 => ((r15 = 0 → p_X0_chanceOf 10 S14 a1 a2 (fun r17 S16 => p_X3_weigh  S16 r17 (fun S18 => p_X3_waysToOwe  S18  (fun r20 S19 => p_X3_whole  S19  (fun r22 S21 => p_X10_tell  S21 r20 r22 (fun r24 S23 => post r24 S23)))))) ∧ (¬ r15 = 0 → p_X10_settled  S14 r15 (fun r26 S25 => post r26 S25))))
set_option maxHeartbeats 4000000 in
set_option maxRecDepth 100000 in
theorem c_X10_owes (l : Launch) (G : vG)    {S : vSt} (a1 : Int32) (a2 : Int32) (post : Bool → vSt → Prop) (h : p_X10_owes   S a1 a2 post) : Met l yX10_owes (v_ws yX10_owes cX10_owes 4 (some .boolean)) (v_rm 3 106) (v_Pc G [.ref (G.1 0), .int a1, .int a2] S) (v_Qz G post) 0 0 (v_A G) := by
  refine v_start (by decide +kernel) (Nat.le_of_ble_eq_true rfl) (fun X hl C D => ?_)
  subst hl
  have C : v_Cx X G cX10_owes RX10 4 (v_rm 3 106) := C
  show VJ X G S 0 [(0, .ref (G.1 0)), (1, .int a1), (2, .int a2)] []
  refine V_aload_n C 0 dX10_owes_0 rfl rfl ?_
  refine V_iload_n C 1 dX10_owes_1 rfl rfl ?_
  refine V_iload_n C 2 dX10_owes_2 rfl rfl ?_
  refine V_callVi (As := [.int a1, .int a2]) (rest := []) C (c_X10_voteStatus (v_l X) G  _ _ _ h) 0 10 (by decide) (by decide) (by decide) rfl KV_X10_voteStatus k_RX10_271 rfl rfl rfl (Nat.le_of_ble_eq_true rfl) ⟨Nat.le_of_ble_eq_true rfl, Nat.le_of_ble_eq_true rfl⟩ dX10_owes_3 (fun r15 S14 h => ?_)
  refine V_istore_n (lv' := [(0, .ref (G.1 0)), (1, .int a1), (2, .int a2), (3, .int r15)]) C [1, 2, 3, 0] dX10_owes_6 rfl (by decide) rfl ?_
  refine V_iload_n C 3 dX10_owes_7 rfl rfl ?_
  refine V_if_eq (tgt := 17) C dX10_owes_8 (by decide) (fun c => ?_) (fun c => ?_)
  · have h := h.1 c
    refine V_aload_n C 0 dX10_owes_17 rfl rfl ?_
    refine V_ga C 0 (by decide) (by decide) F_10_7 k_RX10_64 dX10_owes_18 ?_
    refine V_aload_n C 0 dX10_owes_21 rfl rfl ?_
    refine V_ga C 0 (by decide) (by decide) F_10_2 k_RX10_26 dX10_owes_22 ?_
    refine V_iload_n C 1 dX10_owes_25 rfl rfl ?_
    refine V_iload_n C 2 dX10_owes_26 rfl rfl ?_
    refine V_callVi (As := [.int a1, .int a2]) (rest := [.ref (G.1 58)]) C (c_X0_chanceOf (v_l X) G v_i10 _ _ _ h) 10 0 (by decide) (by decide) (by decide) rfl KV_X0_chanceOf k_RX10_274 rfl rfl rfl (Nat.le_of_ble_eq_true rfl) ⟨Nat.le_of_ble_eq_true rfl, Nat.le_of_ble_eq_true rfl⟩ dX10_owes_27 (fun r17 S16 h => ?_)
    refine V_callVv (As := [.int r17]) (rest := []) C (c_X3_weigh (v_l X) G  _ _ h) 58 3 (by decide) (by decide) (by decide) rfl KV_X3_weigh k_RX10_280 rfl rfl rfl (Nat.le_of_ble_eq_true rfl) ⟨Nat.le_of_ble_eq_true rfl, Nat.le_of_ble_eq_true rfl⟩ dX10_owes_30 (fun S18 h => ?_)
    refine V_aload_n C 0 dX10_owes_33 rfl rfl ?_
    refine V_aload_n C 0 dX10_owes_34 rfl rfl ?_
    refine V_ga C 0 (by decide) (by decide) F_10_7 k_RX10_64 dX10_owes_35 ?_
    refine V_callVl (As := []) (rest := [.ref (G.1 0)]) C (c_X3_waysToOwe (v_l X) G  _ h) 58 3 (by decide) (by decide) (by decide) rfl KV_X3_waysToOwe k_RX10_301 rfl rfl rfl (Nat.le_of_ble_eq_true rfl) ⟨Nat.le_of_ble_eq_true rfl, Nat.le_of_ble_eq_true rfl⟩ dX10_owes_38 (fun r20 S19 h => ?_)
    refine V_aload_n C 0 dX10_owes_41 rfl rfl ?_
    refine V_ga C 0 (by decide) (by decide) F_10_7 k_RX10_64 dX10_owes_42 ?_
    refine V_callVl (As := []) (rest := [.long r20, .ref (G.1 0)]) C (c_X3_whole (v_l X) G  _ h) 58 3 (by decide) (by decide) (by decide) rfl KV_X3_whole k_RX10_290 rfl rfl rfl (Nat.le_of_ble_eq_true rfl) ⟨Nat.le_of_ble_eq_true rfl, Nat.le_of_ble_eq_true rfl⟩ dX10_owes_45 (fun r22 S21 h => ?_)
    refine V_callVz (As := [.long r20, .long r22]) (rest := []) C (c_X10_tell (v_l X) G  _ _ _ h) 0 10 (by decide) (by decide) (by decide) rfl KV_X10_tell k_RX10_294 rfl rfl rfl (Nat.le_of_ble_eq_true rfl) ⟨Nat.le_of_ble_eq_true rfl, Nat.le_of_ble_eq_true rfl⟩ dX10_owes_48 (fun r24 S23 h => ?_)
    exact V_zret C D dX10_owes_51 h
  · have h := h.2 c
    refine V_aload_n C 0 dX10_owes_11 rfl rfl ?_
    refine V_iload_n C 3 dX10_owes_12 rfl rfl ?_
    refine V_callVz (As := [.int r15]) (rest := []) C (c_X10_settled (v_l X) G  _ _ h) 0 10 (by decide) (by decide) (by decide) rfl KV_X10_settled k_RX10_116 rfl rfl rfl (Nat.le_of_ble_eq_true rfl) ⟨Nat.le_of_ble_eq_true rfl, Nat.le_of_ble_eq_true rfl⟩ dX10_owes_13 (fun r26 S25 h => ?_)
    exact V_zret C D dX10_owes_16 h
/-! HalfAccuser.meanStatus(II)I -/
theorem dX10_meanStatus_0 : decode cX10_meanStatus 0 = .ok ((.aload_n 0), 1) := by decide +kernel
theorem dX10_meanStatus_1 : decode cX10_meanStatus 1 = .ok ((.iload_n 1), 1) := by decide +kernel
theorem dX10_meanStatus_2 : decode cX10_meanStatus 2 = .ok ((.iload_n 2), 1) := by decide +kernel
theorem dX10_meanStatus_3 : decode cX10_meanStatus 3 = .ok ((.invokevirtual 271), 3) := by decide +kernel
theorem dX10_meanStatus_6 : decode cX10_meanStatus 6 = .ok ((.istore_n 3), 1) := by decide +kernel
theorem dX10_meanStatus_7 : decode cX10_meanStatus 7 = .ok ((.iload_n 3), 1) := by decide +kernel
theorem dX10_meanStatus_8 : decode cX10_meanStatus 8 = .ok ((.ifCond .eq 5), 3) := by decide +kernel
theorem dX10_meanStatus_11 : decode cX10_meanStatus 11 = .ok ((.iload_n 3), 1) := by decide +kernel
theorem dX10_meanStatus_12 : decode cX10_meanStatus 12 = .ok (.ireturn, 1) := by decide +kernel
theorem dX10_meanStatus_13 : decode cX10_meanStatus 13 = .ok ((.aload_n 0), 1) := by decide +kernel
theorem dX10_meanStatus_14 : decode cX10_meanStatus 14 = .ok ((.getfield 26), 3) := by decide +kernel
theorem dX10_meanStatus_17 : decode cX10_meanStatus 17 = .ok ((.iload_n 1), 1) := by decide +kernel
theorem dX10_meanStatus_18 : decode cX10_meanStatus 18 = .ok ((.invokevirtual 452), 3) := by decide +kernel
theorem dX10_meanStatus_21 : decode cX10_meanStatus 21 = .ok ((.ifCond .eq 8), 3) := by decide +kernel
theorem dX10_meanStatus_24 : decode cX10_meanStatus 24 = .ok ((.bipush 9), 2) := by decide +kernel
theorem dX10_meanStatus_26 : decode cX10_meanStatus 26 = .ok ((.goto 4), 3) := by decide +kernel
theorem dX10_meanStatus_29 : decode cX10_meanStatus 29 = .ok ((.iconst 0), 1) := by decide +kernel
theorem dX10_meanStatus_30 : decode cX10_meanStatus 30 = .ok (.ireturn, 1) := by decide +kernel
def p_X10_meanStatus   (S : vSt) (a1 : Int32) (a2 : Int32) (post : Int32 → vSt → Prop) : Prop := p_X10_voteStatus  S a1 a2 (fun r6 S5 => ((r6 = 0 → p_X0_isRuined 10 S5 a1 (fun r8 S7 => ((r8 = false → post 0 S7) ∧ (r8 = true → post 9 S7)))) ∧ (¬ r6 = 0 → post r6 S5)))
set_option maxHeartbeats 4000000 in
set_option maxRecDepth 100000 in
theorem c_X10_meanStatus (l : Launch) (G : vG)    {S : vSt} (a1 : Int32) (a2 : Int32) (post : Int32 → vSt → Prop) (h : p_X10_meanStatus   S a1 a2 post) : Met l yX10_meanStatus (v_ws yX10_meanStatus cX10_meanStatus 4 (some .int)) (v_rm 3 105) (v_Pc G [.ref (G.1 0), .int a1, .int a2] S) (v_Qi G post) 0 0 (v_A G) := by
  refine v_start (by decide +kernel) (Nat.le_of_ble_eq_true rfl) (fun X hl C D => ?_)
  subst hl
  have C : v_Cx X G cX10_meanStatus RX10 4 (v_rm 3 105) := C
  show VJ X G S 0 [(0, .ref (G.1 0)), (1, .int a1), (2, .int a2)] []
  refine V_aload_n C 0 dX10_meanStatus_0 rfl rfl ?_
  refine V_iload_n C 1 dX10_meanStatus_1 rfl rfl ?_
  refine V_iload_n C 2 dX10_meanStatus_2 rfl rfl ?_
  refine V_callVi (As := [.int a1, .int a2]) (rest := []) C (c_X10_voteStatus (v_l X) G  _ _ _ h) 0 10 (by decide) (by decide) (by decide) rfl KV_X10_voteStatus k_RX10_271 rfl rfl rfl (Nat.le_of_ble_eq_true rfl) ⟨Nat.le_of_ble_eq_true rfl, Nat.le_of_ble_eq_true rfl⟩ dX10_meanStatus_3 (fun r6 S5 h => ?_)
  refine V_istore_n (lv' := [(0, .ref (G.1 0)), (1, .int a1), (2, .int a2), (3, .int r6)]) C [1, 2, 3, 0] dX10_meanStatus_6 rfl (by decide) rfl ?_
  refine V_iload_n C 3 dX10_meanStatus_7 rfl rfl ?_
  refine V_if_eq (tgt := 13) C dX10_meanStatus_8 (by decide) (fun c => ?_) (fun c => ?_)
  · have h := h.1 c
    refine V_aload_n C 0 dX10_meanStatus_13 rfl rfl ?_
    refine V_ga C 0 (by decide) (by decide) F_10_2 k_RX10_26 dX10_meanStatus_14 ?_
    refine V_iload_n C 1 dX10_meanStatus_17 rfl rfl ?_
    refine V_callVz (As := [.int a1]) (rest := []) C (c_X0_isRuined (v_l X) G v_i10 _ _ h) 10 0 (by decide) (by decide) (by decide) rfl KV_X0_isRuined k_RX10_452 rfl rfl rfl (Nat.le_of_ble_eq_true rfl) ⟨Nat.le_of_ble_eq_true rfl, Nat.le_of_ble_eq_true rfl⟩ dX10_meanStatus_18 (fun r8 S7 h => ?_)
    refine V_ifb_eq (tgt := 29) C dX10_meanStatus_21 (by decide) (fun c => ?_) (fun c => ?_)
    · have h := h.1 c
      refine V_iconst (v := 0) C dX10_meanStatus_29 (by decide) ?_
      exact V_iret C D dX10_meanStatus_30 h
    · have h := h.2 c
      refine V_bipush (v := 9) C dX10_meanStatus_24 (by decide) ?_
      refine V_goto (tgt := 30) C dX10_meanStatus_26 (by decide) ?_
      exact V_iret C D dX10_meanStatus_30 h
  · have h := h.2 c
    refine V_iload_n C 3 dX10_meanStatus_11 rfl rfl ?_
    exact V_iret C D dX10_meanStatus_12 h
/-! HalfAccuser.seen()LHalfAccuser$Hopes; -/
theorem dX10_seen_0 : decode cX10_seen 0 = .ok ((.aload_n 0), 1) := by decide +kernel
theorem dX10_seen_1 : decode cX10_seen 1 = .ok ((.getfield 64), 3) := by decide +kernel
theorem dX10_seen_4 : decode cX10_seen 4 = .ok ((.invokevirtual 365), 3) := by decide +kernel
theorem dX10_seen_7 : decode cX10_seen 7 = .ok ((.aload_n 0), 1) := by decide +kernel
theorem dX10_seen_8 : decode cX10_seen 8 = .ok ((.getfield 64), 3) := by decide +kernel
theorem dX10_seen_11 : decode cX10_seen 11 = .ok (.areturn, 1) := by decide +kernel
def p_X10_seen   (S : vSt)  (post : vSt → Prop) : Prop := p_X3_see  S  (fun S2 => post S2)
set_option maxHeartbeats 4000000 in
set_option maxRecDepth 100000 in
theorem c_X10_seen (l : Launch) (G : vG)    {S : vSt}  (post : vSt → Prop) (h : p_X10_seen   S  post) : Met l yX10_seen (v_ws yX10_seen cX10_seen 1 (some (.object "HalfAccuser$Hopes"))) (v_rm 5 156) (v_Pc G [.ref (G.1 0)] S) (v_Qr G 58 post) 0 0 (v_A G) := by
  refine v_start (by decide +kernel) (Nat.le_of_ble_eq_true rfl) (fun X hl C D => ?_)
  subst hl
  have C : v_Cx X G cX10_seen RX10 1 (v_rm 5 156) := C
  show VJ X G S 0 [(0, .ref (G.1 0))] []
  refine V_aload_n C 0 dX10_seen_0 rfl rfl ?_
  refine V_ga C 0 (by decide) (by decide) F_10_7 k_RX10_64 dX10_seen_1 ?_
  refine V_callVv (As := []) (rest := []) C (c_X3_see (v_l X) G  _ h) 58 3 (by decide) (by decide) (by decide) rfl KV_X3_see k_RX10_365 rfl rfl rfl (Nat.le_of_ble_eq_true rfl) ⟨Nat.le_of_ble_eq_true rfl, Nat.le_of_ble_eq_true rfl⟩ dX10_seen_4 (fun S2 h => ?_)
  refine V_aload_n C 0 dX10_seen_7 rfl rfl ?_
  refine V_ga C 0 (by decide) (by decide) F_10_7 k_RX10_64 dX10_seen_8 ?_
  exact V_aret C 58 D dX10_seen_11 h
/-! HalfAccuser.gain(II)Z -/
theorem dX10_gain_0 : decode cX10_gain 0 = .ok ((.aload_n 0), 1) := by decide +kernel
theorem dX10_gain_1 : decode cX10_gain 1 = .ok ((.iload_n 1), 1) := by decide +kernel
theorem dX10_gain_2 : decode cX10_gain 2 = .ok ((.iload_n 2), 1) := by decide +kernel
theorem dX10_gain_3 : decode cX10_gain 3 = .ok ((.invokevirtual 304), 3) := by decide +kernel
theorem dX10_gain_6 : decode cX10_gain 6 = .ok ((.istore_n 3), 1) := by decide +kernel
theorem dX10_gain_7 : decode cX10_gain 7 = .ok ((.iload_n 3), 1) := by decide +kernel
theorem dX10_gain_8 : decode cX10_gain 8 = .ok ((.ifCond .eq 9), 3) := by decide +kernel
theorem dX10_gain_11 : decode cX10_gain 11 = .ok ((.aload_n 0), 1) := by decide +kernel
theorem dX10_gain_12 : decode cX10_gain 12 = .ok ((.iload_n 3), 1) := by decide +kernel
theorem dX10_gain_13 : decode cX10_gain 13 = .ok ((.invokevirtual 116), 3) := by decide +kernel
theorem dX10_gain_16 : decode cX10_gain 16 = .ok (.ireturn, 1) := by decide +kernel
theorem dX10_gain_17 : decode cX10_gain 17 = .ok ((.aload_n 0), 1) := by decide +kernel
theorem dX10_gain_18 : decode cX10_gain 18 = .ok ((.aload_n 0), 1) := by decide +kernel
theorem dX10_gain_19 : decode cX10_gain 19 = .ok ((.invokevirtual 307), 3) := by decide +kernel
theorem dX10_gain_22 : decode cX10_gain 22 = .ok ((.iload_n 1), 1) := by decide +kernel
theorem dX10_gain_23 : decode cX10_gain 23 = .ok ((.iload_n 2), 1) := by decide +kernel
theorem dX10_gain_24 : decode cX10_gain 24 = .ok ((.invokevirtual 311), 3) := by decide +kernel
theorem dX10_gain_27 : decode cX10_gain 27 = .ok ((.aload_n 0), 1) := by decide +kernel
theorem dX10_gain_28 : decode cX10_gain 28 = .ok ((.getfield 64), 3) := by decide +kernel
theorem dX10_gain_31 : decode cX10_gain 31 = .ok ((.invokevirtual 290), 3) := by decide +kernel
theorem dX10_gain_34 : decode cX10_gain 34 = .ok ((.invokevirtual 294), 3) := by decide +kernel
theorem dX10_gain_37 : decode cX10_gain 37 = .ok (.ireturn, 1) := by decide +kernel
def p_X10_gain   (S : vSt) (a1 : Int32) (a2 : Int32) (post : Bool → vSt → Prop) : Prop := p_X10_meanStatus  S a1 a2 (fun r13 S12 => ((r13 = 0 → p_X10_seen  S12  (fun S14 => p_X3_gainOf  S14 a1 a2 (fun r16 S15 => p_X3_whole  S15  (fun r18 S17 => p_X10_tell  S17 r16 r18 (fun r20 S19 => post r20 S19))))) ∧ (¬ r13 = 0 → p_X10_settled  S12 r13 (fun r22 S21 => post r22 S21))))
set_option maxHeartbeats 4000000 in
set_option maxRecDepth 100000 in
theorem c_X10_gain (l : Launch) (G : vG)    {S : vSt} (a1 : Int32) (a2 : Int32) (post : Bool → vSt → Prop) (h : p_X10_gain   S a1 a2 post) : Met l yX10_gain (v_ws yX10_gain cX10_gain 4 (some .boolean)) (v_rm 6 176) (v_Pc G [.ref (G.1 0), .int a1, .int a2] S) (v_Qz G post) 0 0 (v_A G) := by
  refine v_start (by decide +kernel) (Nat.le_of_ble_eq_true rfl) (fun X hl C D => ?_)
  subst hl
  have C : v_Cx X G cX10_gain RX10 4 (v_rm 6 176) := C
  show VJ X G S 0 [(0, .ref (G.1 0)), (1, .int a1), (2, .int a2)] []
  refine V_aload_n C 0 dX10_gain_0 rfl rfl ?_
  refine V_iload_n C 1 dX10_gain_1 rfl rfl ?_
  refine V_iload_n C 2 dX10_gain_2 rfl rfl ?_
  refine V_callVi (As := [.int a1, .int a2]) (rest := []) C (c_X10_meanStatus (v_l X) G  _ _ _ h) 0 10 (by decide) (by decide) (by decide) rfl KV_X10_meanStatus k_RX10_304 rfl rfl rfl (Nat.le_of_ble_eq_true rfl) ⟨Nat.le_of_ble_eq_true rfl, Nat.le_of_ble_eq_true rfl⟩ dX10_gain_3 (fun r13 S12 h => ?_)
  refine V_istore_n (lv' := [(0, .ref (G.1 0)), (1, .int a1), (2, .int a2), (3, .int r13)]) C [1, 2, 3, 0] dX10_gain_6 rfl (by decide) rfl ?_
  refine V_iload_n C 3 dX10_gain_7 rfl rfl ?_
  refine V_if_eq (tgt := 17) C dX10_gain_8 (by decide) (fun c => ?_) (fun c => ?_)
  · have h := h.1 c
    refine V_aload_n C 0 dX10_gain_17 rfl rfl ?_
    refine V_aload_n C 0 dX10_gain_18 rfl rfl ?_
    refine V_callVr (As := []) (rest := [.ref (G.1 0)]) C (c_X10_seen (v_l X) G  _ h) 0 10 (by decide) (by decide) (by decide) rfl KV_X10_seen k_RX10_307 rfl rfl rfl (Nat.le_of_ble_eq_true rfl) ⟨Nat.le_of_ble_eq_true rfl, Nat.le_of_ble_eq_true rfl⟩ dX10_gain_19 (fun S14 h => ?_)
    refine V_iload_n C 1 dX10_gain_22 rfl rfl ?_
    refine V_iload_n C 2 dX10_gain_23 rfl rfl ?_
    refine V_callVl (As := [.int a1, .int a2]) (rest := [.ref (G.1 0)]) C (c_X3_gainOf (v_l X) G  _ _ _ h) 58 3 (by decide) (by decide) (by decide) rfl KV_X3_gainOf k_RX10_311 rfl rfl rfl (Nat.le_of_ble_eq_true rfl) ⟨Nat.le_of_ble_eq_true rfl, Nat.le_of_ble_eq_true rfl⟩ dX10_gain_24 (fun r16 S15 h => ?_)
    refine V_aload_n C 0 dX10_gain_27 rfl rfl ?_
    refine V_ga C 0 (by decide) (by decide) F_10_7 k_RX10_64 dX10_gain_28 ?_
    refine V_callVl (As := []) (rest := [.long r16, .ref (G.1 0)]) C (c_X3_whole (v_l X) G  _ h) 58 3 (by decide) (by decide) (by decide) rfl KV_X3_whole k_RX10_290 rfl rfl rfl (Nat.le_of_ble_eq_true rfl) ⟨Nat.le_of_ble_eq_true rfl, Nat.le_of_ble_eq_true rfl⟩ dX10_gain_31 (fun r18 S17 h => ?_)
    refine V_callVz (As := [.long r16, .long r18]) (rest := []) C (c_X10_tell (v_l X) G  _ _ _ h) 0 10 (by decide) (by decide) (by decide) rfl KV_X10_tell k_RX10_294 rfl rfl rfl (Nat.le_of_ble_eq_true rfl) ⟨Nat.le_of_ble_eq_true rfl, Nat.le_of_ble_eq_true rfl⟩ dX10_gain_34 (fun r20 S19 h => ?_)
    exact V_zret C D dX10_gain_37 h
  · have h := h.2 c
    refine V_aload_n C 0 dX10_gain_11 rfl rfl ?_
    refine V_iload_n C 3 dX10_gain_12 rfl rfl ?_
    refine V_callVz (As := [.int r13]) (rest := []) C (c_X10_settled (v_l X) G  _ _ h) 0 10 (by decide) (by decide) (by decide) rfl KV_X10_settled k_RX10_116 rfl rfl rfl (Nat.le_of_ble_eq_true rfl) ⟨Nat.le_of_ble_eq_true rfl, Nat.le_of_ble_eq_true rfl⟩ dX10_gain_13 (fun r22 S21 h => ?_)
    exact V_zret C D dX10_gain_16 h
/-! HalfAccuser.loss(II)Z -/
theorem dX10_loss_0 : decode cX10_loss 0 = .ok ((.aload_n 0), 1) := by decide +kernel
theorem dX10_loss_1 : decode cX10_loss 1 = .ok ((.iload_n 1), 1) := by decide +kernel
theorem dX10_loss_2 : decode cX10_loss 2 = .ok ((.iload_n 2), 1) := by decide +kernel
theorem dX10_loss_3 : decode cX10_loss 3 = .ok ((.invokevirtual 304), 3) := by decide +kernel
theorem dX10_loss_6 : decode cX10_loss 6 = .ok ((.istore_n 3), 1) := by decide +kernel
theorem dX10_loss_7 : decode cX10_loss 7 = .ok ((.iload_n 3), 1) := by decide +kernel
theorem dX10_loss_8 : decode cX10_loss 8 = .ok ((.ifCond .eq 9), 3) := by decide +kernel
theorem dX10_loss_11 : decode cX10_loss 11 = .ok ((.aload_n 0), 1) := by decide +kernel
theorem dX10_loss_12 : decode cX10_loss 12 = .ok ((.iload_n 3), 1) := by decide +kernel
theorem dX10_loss_13 : decode cX10_loss 13 = .ok ((.invokevirtual 116), 3) := by decide +kernel
theorem dX10_loss_16 : decode cX10_loss 16 = .ok (.ireturn, 1) := by decide +kernel
theorem dX10_loss_17 : decode cX10_loss 17 = .ok ((.aload_n 0), 1) := by decide +kernel
theorem dX10_loss_18 : decode cX10_loss 18 = .ok ((.aload_n 0), 1) := by decide +kernel
theorem dX10_loss_19 : decode cX10_loss 19 = .ok ((.invokevirtual 307), 3) := by decide +kernel
theorem dX10_loss_22 : decode cX10_loss 22 = .ok ((.iload_n 1), 1) := by decide +kernel
theorem dX10_loss_23 : decode cX10_loss 23 = .ok ((.iload_n 2), 1) := by decide +kernel
theorem dX10_loss_24 : decode cX10_loss 24 = .ok ((.invokevirtual 314), 3) := by decide +kernel
theorem dX10_loss_27 : decode cX10_loss 27 = .ok ((.aload_n 0), 1) := by decide +kernel
theorem dX10_loss_28 : decode cX10_loss 28 = .ok ((.getfield 64), 3) := by decide +kernel
theorem dX10_loss_31 : decode cX10_loss 31 = .ok ((.invokevirtual 290), 3) := by decide +kernel
theorem dX10_loss_34 : decode cX10_loss 34 = .ok ((.invokevirtual 294), 3) := by decide +kernel
theorem dX10_loss_37 : decode cX10_loss 37 = .ok (.ireturn, 1) := by decide +kernel
def p_X10_loss   (S : vSt) (a1 : Int32) (a2 : Int32) (post : Bool → vSt → Prop) : Prop := p_X10_meanStatus  S a1 a2 (fun r13 S12 => ((r13 = 0 → p_X10_seen  S12  (fun S14 => p_X3_lossOf  S14 a1 a2 (fun r16 S15 => p_X3_whole  S15  (fun r18 S17 => p_X10_tell  S17 r16 r18 (fun r20 S19 => post r20 S19))))) ∧ (¬ r13 = 0 → p_X10_settled  S12 r13 (fun r22 S21 => post r22 S21))))
set_option maxHeartbeats 4000000 in
set_option maxRecDepth 100000 in
theorem c_X10_loss (l : Launch) (G : vG)    {S : vSt} (a1 : Int32) (a2 : Int32) (post : Bool → vSt → Prop) (h : p_X10_loss   S a1 a2 post) : Met l yX10_loss (v_ws yX10_loss cX10_loss 4 (some .boolean)) (v_rm 6 176) (v_Pc G [.ref (G.1 0), .int a1, .int a2] S) (v_Qz G post) 0 0 (v_A G) := by
  refine v_start (by decide +kernel) (Nat.le_of_ble_eq_true rfl) (fun X hl C D => ?_)
  subst hl
  have C : v_Cx X G cX10_loss RX10 4 (v_rm 6 176) := C
  show VJ X G S 0 [(0, .ref (G.1 0)), (1, .int a1), (2, .int a2)] []
  refine V_aload_n C 0 dX10_loss_0 rfl rfl ?_
  refine V_iload_n C 1 dX10_loss_1 rfl rfl ?_
  refine V_iload_n C 2 dX10_loss_2 rfl rfl ?_
  refine V_callVi (As := [.int a1, .int a2]) (rest := []) C (c_X10_meanStatus (v_l X) G  _ _ _ h) 0 10 (by decide) (by decide) (by decide) rfl KV_X10_meanStatus k_RX10_304 rfl rfl rfl (Nat.le_of_ble_eq_true rfl) ⟨Nat.le_of_ble_eq_true rfl, Nat.le_of_ble_eq_true rfl⟩ dX10_loss_3 (fun r13 S12 h => ?_)
  refine V_istore_n (lv' := [(0, .ref (G.1 0)), (1, .int a1), (2, .int a2), (3, .int r13)]) C [1, 2, 3, 0] dX10_loss_6 rfl (by decide) rfl ?_
  refine V_iload_n C 3 dX10_loss_7 rfl rfl ?_
  refine V_if_eq (tgt := 17) C dX10_loss_8 (by decide) (fun c => ?_) (fun c => ?_)
  · have h := h.1 c
    refine V_aload_n C 0 dX10_loss_17 rfl rfl ?_
    refine V_aload_n C 0 dX10_loss_18 rfl rfl ?_
    refine V_callVr (As := []) (rest := [.ref (G.1 0)]) C (c_X10_seen (v_l X) G  _ h) 0 10 (by decide) (by decide) (by decide) rfl KV_X10_seen k_RX10_307 rfl rfl rfl (Nat.le_of_ble_eq_true rfl) ⟨Nat.le_of_ble_eq_true rfl, Nat.le_of_ble_eq_true rfl⟩ dX10_loss_19 (fun S14 h => ?_)
    refine V_iload_n C 1 dX10_loss_22 rfl rfl ?_
    refine V_iload_n C 2 dX10_loss_23 rfl rfl ?_
    refine V_callVl (As := [.int a1, .int a2]) (rest := [.ref (G.1 0)]) C (c_X3_lossOf (v_l X) G  _ _ _ h) 58 3 (by decide) (by decide) (by decide) rfl KV_X3_lossOf k_RX10_314 rfl rfl rfl (Nat.le_of_ble_eq_true rfl) ⟨Nat.le_of_ble_eq_true rfl, Nat.le_of_ble_eq_true rfl⟩ dX10_loss_24 (fun r16 S15 h => ?_)
    refine V_aload_n C 0 dX10_loss_27 rfl rfl ?_
    refine V_ga C 0 (by decide) (by decide) F_10_7 k_RX10_64 dX10_loss_28 ?_
    refine V_callVl (As := []) (rest := [.long r16, .ref (G.1 0)]) C (c_X3_whole (v_l X) G  _ h) 58 3 (by decide) (by decide) (by decide) rfl KV_X3_whole k_RX10_290 rfl rfl rfl (Nat.le_of_ble_eq_true rfl) ⟨Nat.le_of_ble_eq_true rfl, Nat.le_of_ble_eq_true rfl⟩ dX10_loss_31 (fun r18 S17 h => ?_)
    refine V_callVz (As := [.long r16, .long r18]) (rest := []) C (c_X10_tell (v_l X) G  _ _ _ h) 0 10 (by decide) (by decide) (by decide) rfl KV_X10_tell k_RX10_294 rfl rfl rfl (Nat.le_of_ble_eq_true rfl) ⟨Nat.le_of_ble_eq_true rfl, Nat.le_of_ble_eq_true rfl⟩ dX10_loss_34 (fun r20 S19 h => ?_)
    exact V_zret C D dX10_loss_37 h
  · have h := h.2 c
    refine V_aload_n C 0 dX10_loss_11 rfl rfl ?_
    refine V_iload_n C 3 dX10_loss_12 rfl rfl ?_
    refine V_callVz (As := [.int r13]) (rest := []) C (c_X10_settled (v_l X) G  _ _ h) 0 10 (by decide) (by decide) (by decide) rfl KV_X10_settled k_RX10_116 rfl rfl rfl (Nat.le_of_ble_eq_true rfl) ⟨Nat.le_of_ble_eq_true rfl, Nat.le_of_ble_eq_true rfl⟩ dX10_loss_13 (fun r22 S21 h => ?_)
    exact V_zret C D dX10_loss_16 h
/-! HalfAccuser.toldIfAny(I)I -/
theorem dX10_toldIfAny_0 : decode cX10_toldIfAny 0 = .ok ((.iload_n 1), 1) := by decide +kernel
theorem dX10_toldIfAny_1 : decode cX10_toldIfAny 1 = .ok ((.iconst (-1)), 1) := by decide +kernel
theorem dX10_toldIfAny_2 : decode cX10_toldIfAny 2 = .ok ((.if_icmp .ne 12), 3) := by decide +kernel
theorem dX10_toldIfAny_5 : decode cX10_toldIfAny 5 = .ok ((.aload_n 0), 1) := by decide +kernel
theorem dX10_toldIfAny_6 : decode cX10_toldIfAny 6 = .ok ((.bipush 8), 2) := by decide +kernel
theorem dX10_toldIfAny_8 : decode cX10_toldIfAny 8 = .ok ((.invokevirtual 153), 3) := by decide +kernel
theorem dX10_toldIfAny_11 : decode cX10_toldIfAny 11 = .ok ((.goto 8), 3) := by decide +kernel
theorem dX10_toldIfAny_14 : decode cX10_toldIfAny 14 = .ok ((.aload_n 0), 1) := by decide +kernel
theorem dX10_toldIfAny_15 : decode cX10_toldIfAny 15 = .ok ((.iload_n 1), 1) := by decide +kernel
theorem dX10_toldIfAny_16 : decode cX10_toldIfAny 16 = .ok ((.invokevirtual 173), 3) := by decide +kernel
theorem dX10_toldIfAny_19 : decode cX10_toldIfAny 19 = .ok (.ireturn, 1) := by decide +kernel
def p_X10_toldIfAny   (S : vSt) (a1 : Int32) (post : Int32 → vSt → Prop) : Prop := ((¬ a1 = (-1) → p_X10_told  S a1 (fun r6 S5 => post r6 S5)) ∧ (a1 = (-1) → p_X10_refused  S 8 (fun r8 S7 => post r8 S7)))
set_option maxHeartbeats 4000000 in
set_option maxRecDepth 100000 in
theorem c_X10_toldIfAny (l : Launch) (G : vG)    {S : vSt} (a1 : Int32) (post : Int32 → vSt → Prop) (h : p_X10_toldIfAny   S a1 post) : Met l yX10_toldIfAny (v_ws yX10_toldIfAny cX10_toldIfAny 2 (some .int)) (v_rm 1 61) (v_Pc G [.ref (G.1 0), .int a1] S) (v_Qi G post) 0 0 (v_A G) := by
  refine v_start (by decide +kernel) (Nat.le_of_ble_eq_true rfl) (fun X hl C D => ?_)
  subst hl
  have C : v_Cx X G cX10_toldIfAny RX10 2 (v_rm 1 61) := C
  show VJ X G S 0 [(0, .ref (G.1 0)), (1, .int a1)] []
  refine V_iload_n C 1 dX10_toldIfAny_0 rfl rfl ?_
  refine V_iconst (v := (-1)) C dX10_toldIfAny_1 (by decide) ?_
  refine V_icmp_ne (tgt := 14) C dX10_toldIfAny_2 (by decide) (fun c => ?_) (fun c => ?_)
  · have h := h.1 c
    refine V_aload_n C 0 dX10_toldIfAny_14 rfl rfl ?_
    refine V_iload_n C 1 dX10_toldIfAny_15 rfl rfl ?_
    refine V_callVi (As := [.int a1]) (rest := []) C (c_X10_told (v_l X) G  _ _ h) 0 10 (by decide) (by decide) (by decide) rfl KV_X10_told k_RX10_173 rfl rfl rfl (Nat.le_of_ble_eq_true rfl) ⟨Nat.le_of_ble_eq_true rfl, Nat.le_of_ble_eq_true rfl⟩ dX10_toldIfAny_16 (fun r6 S5 h => ?_)
    exact V_iret C D dX10_toldIfAny_19 h
  · have h := h.2 c
    refine V_aload_n C 0 dX10_toldIfAny_5 rfl rfl ?_
    refine V_bipush (v := 8) C dX10_toldIfAny_6 (by decide) ?_
    refine V_callVi (As := [.int 8]) (rest := []) C (c_X10_refused (v_l X) G  _ _ h) 0 10 (by decide) (by decide) (by decide) rfl KV_X10_refused k_RX10_153 rfl rfl rfl (Nat.le_of_ble_eq_true rfl) ⟨Nat.le_of_ble_eq_true rfl, Nat.le_of_ble_eq_true rfl⟩ dX10_toldIfAny_8 (fun r8 S7 h => ?_)
    refine V_goto (tgt := 19) C dX10_toldIfAny_11 (by decide) ?_
    exact V_iret C D dX10_toldIfAny_19 h
/-! HalfAccuser.best(I)I -/
theorem dX10_best_0 : decode cX10_best 0 = .ok ((.aload_n 0), 1) := by decide +kernel
theorem dX10_best_1 : decode cX10_best 1 = .ok ((.getfield 26), 3) := by decide +kernel
theorem dX10_best_4 : decode cX10_best 4 = .ok ((.iload_n 1), 1) := by decide +kernel
theorem dX10_best_5 : decode cX10_best 5 = .ok ((.invokevirtual 188), 3) := by decide +kernel
theorem dX10_best_8 : decode cX10_best 8 = .ok ((.ifCond .ne 9), 3) := by decide +kernel
theorem dX10_best_11 : decode cX10_best 11 = .ok ((.aload_n 0), 1) := by decide +kernel
theorem dX10_best_12 : decode cX10_best 12 = .ok ((.iconst 2), 1) := by decide +kernel
theorem dX10_best_13 : decode cX10_best 13 = .ok ((.invokevirtual 153), 3) := by decide +kernel
theorem dX10_best_16 : decode cX10_best 16 = .ok (.ireturn, 1) := by decide +kernel
theorem dX10_best_17 : decode cX10_best 17 = .ok ((.aload_n 0), 1) := by decide +kernel
theorem dX10_best_18 : decode cX10_best 18 = .ok ((.aload_n 0), 1) := by decide +kernel
theorem dX10_best_19 : decode cX10_best 19 = .ok ((.invokevirtual 307), 3) := by decide +kernel
theorem dX10_best_22 : decode cX10_best 22 = .ok ((.iload_n 1), 1) := by decide +kernel
theorem dX10_best_23 : decode cX10_best 23 = .ok ((.invokevirtual 317), 3) := by decide +kernel
theorem dX10_best_26 : decode cX10_best 26 = .ok ((.invokevirtual 320), 3) := by decide +kernel
theorem dX10_best_29 : decode cX10_best 29 = .ok (.ireturn, 1) := by decide +kernel
def p_X10_best   (S : vSt) (a1 : Int32) (post : Int32 → vSt → Prop) : Prop := p_X0_hasPerson 10 S a1 (fun r11 S10 => ((r11 = true → p_X10_seen  S10  (fun S12 => p_X3_bestDeed  S12 a1 (fun r14 S13 => p_X10_toldIfAny  S13 r14 (fun r16 S15 => post r16 S15)))) ∧ (r11 = false → p_X10_refused  S10 2 (fun r18 S17 => post r18 S17))))
set_option maxHeartbeats 4000000 in
set_option maxRecDepth 100000 in
theorem c_X10_best (l : Launch) (G : vG)    {S : vSt} (a1 : Int32) (post : Int32 → vSt → Prop) (h : p_X10_best   S a1 post) : Met l yX10_best (v_ws yX10_best cX10_best 2 (some .int)) (v_rm 6 176) (v_Pc G [.ref (G.1 0), .int a1] S) (v_Qi G post) 0 0 (v_A G) := by
  refine v_start (by decide +kernel) (Nat.le_of_ble_eq_true rfl) (fun X hl C D => ?_)
  subst hl
  have C : v_Cx X G cX10_best RX10 2 (v_rm 6 176) := C
  show VJ X G S 0 [(0, .ref (G.1 0)), (1, .int a1)] []
  refine V_aload_n C 0 dX10_best_0 rfl rfl ?_
  refine V_ga C 0 (by decide) (by decide) F_10_2 k_RX10_26 dX10_best_1 ?_
  refine V_iload_n C 1 dX10_best_4 rfl rfl ?_
  refine V_callVz (As := [.int a1]) (rest := []) C (c_X0_hasPerson (v_l X) G v_i10 _ _ h) 10 0 (by decide) (by decide) (by decide) rfl KV_X0_hasPerson k_RX10_188 rfl rfl rfl (Nat.le_of_ble_eq_true rfl) ⟨Nat.le_of_ble_eq_true rfl, Nat.le_of_ble_eq_true rfl⟩ dX10_best_5 (fun r11 S10 h => ?_)
  refine V_ifb_ne (tgt := 17) C dX10_best_8 (by decide) (fun c => ?_) (fun c => ?_)
  · have h := h.1 c
    refine V_aload_n C 0 dX10_best_17 rfl rfl ?_
    refine V_aload_n C 0 dX10_best_18 rfl rfl ?_
    refine V_callVr (As := []) (rest := [.ref (G.1 0)]) C (c_X10_seen (v_l X) G  _ h) 0 10 (by decide) (by decide) (by decide) rfl KV_X10_seen k_RX10_307 rfl rfl rfl (Nat.le_of_ble_eq_true rfl) ⟨Nat.le_of_ble_eq_true rfl, Nat.le_of_ble_eq_true rfl⟩ dX10_best_19 (fun S12 h => ?_)
    refine V_iload_n C 1 dX10_best_22 rfl rfl ?_
    refine V_callVi (As := [.int a1]) (rest := [.ref (G.1 0)]) C (c_X3_bestDeed (v_l X) G  _ _ h) 58 3 (by decide) (by decide) (by decide) rfl KV_X3_bestDeed k_RX10_317 rfl rfl rfl (Nat.le_of_ble_eq_true rfl) ⟨Nat.le_of_ble_eq_true rfl, Nat.le_of_ble_eq_true rfl⟩ dX10_best_23 (fun r14 S13 h => ?_)
    refine V_callVi (As := [.int r14]) (rest := []) C (c_X10_toldIfAny (v_l X) G  _ _ h) 0 10 (by decide) (by decide) (by decide) rfl KV_X10_toldIfAny k_RX10_320 rfl rfl rfl (Nat.le_of_ble_eq_true rfl) ⟨Nat.le_of_ble_eq_true rfl, Nat.le_of_ble_eq_true rfl⟩ dX10_best_26 (fun r16 S15 h => ?_)
    exact V_iret C D dX10_best_29 h
  · have h := h.2 c
    refine V_aload_n C 0 dX10_best_11 rfl rfl ?_
    refine V_iconst (v := 2) C dX10_best_12 (by decide) ?_
    refine V_callVi (As := [.int 2]) (rest := []) C (c_X10_refused (v_l X) G  _ _ h) 0 10 (by decide) (by decide) (by decide) rfl KV_X10_refused k_RX10_153 rfl rfl rfl (Nat.le_of_ble_eq_true rfl) ⟨Nat.le_of_ble_eq_true rfl, Nat.le_of_ble_eq_true rfl⟩ dX10_best_13 (fun r18 S17 h => ?_)
    exact V_iret C D dX10_best_16 h
/-! HalfAccuser.plan(II)Z -/
theorem dX10_plan_0 : decode cX10_plan 0 = .ok ((.aload_n 0), 1) := by decide +kernel
theorem dX10_plan_1 : decode cX10_plan 1 = .ok ((.getfield 26), 3) := by decide +kernel
theorem dX10_plan_4 : decode cX10_plan 4 = .ok ((.iload_n 1), 1) := by decide +kernel
theorem dX10_plan_5 : decode cX10_plan 5 = .ok ((.invokevirtual 188), 3) := by decide +kernel
theorem dX10_plan_8 : decode cX10_plan 8 = .ok ((.ifCond .ne 9), 3) := by decide +kernel
theorem dX10_plan_11 : decode cX10_plan 11 = .ok ((.aload_n 0), 1) := by decide +kernel
theorem dX10_plan_12 : decode cX10_plan 12 = .ok ((.iconst 2), 1) := by decide +kernel
theorem dX10_plan_13 : decode cX10_plan 13 = .ok ((.invokevirtual 116), 3) := by decide +kernel
theorem dX10_plan_16 : decode cX10_plan 16 = .ok (.ireturn, 1) := by decide +kernel
theorem dX10_plan_17 : decode cX10_plan 17 = .ok ((.iload_n 2), 1) := by decide +kernel
theorem dX10_plan_18 : decode cX10_plan 18 = .ok ((.ifCond .lt 9), 3) := by decide +kernel
theorem dX10_plan_21 : decode cX10_plan 21 = .ok ((.iload_n 2), 1) := by decide +kernel
theorem dX10_plan_22 : decode cX10_plan 22 = .ok ((.bipush 10), 2) := by decide +kernel
theorem dX10_plan_24 : decode cX10_plan 24 = .ok ((.if_icmp .le 9), 3) := by decide +kernel
theorem dX10_plan_27 : decode cX10_plan 27 = .ok ((.aload_n 0), 1) := by decide +kernel
theorem dX10_plan_28 : decode cX10_plan 28 = .ok ((.iconst 5), 1) := by decide +kernel
theorem dX10_plan_29 : decode cX10_plan 29 = .ok ((.invokevirtual 116), 3) := by decide +kernel
theorem dX10_plan_32 : decode cX10_plan 32 = .ok (.ireturn, 1) := by decide +kernel
theorem dX10_plan_33 : decode cX10_plan 33 = .ok ((.aload_n 0), 1) := by decide +kernel
theorem dX10_plan_34 : decode cX10_plan 34 = .ok ((.aload_n 0), 1) := by decide +kernel
theorem dX10_plan_35 : decode cX10_plan 35 = .ok ((.invokevirtual 307), 3) := by decide +kernel
theorem dX10_plan_38 : decode cX10_plan 38 = .ok ((.iload_n 1), 1) := by decide +kernel
theorem dX10_plan_39 : decode cX10_plan 39 = .ok ((.iload_n 2), 1) := by decide +kernel
theorem dX10_plan_40 : decode cX10_plan 40 = .ok ((.invokevirtual 323), 3) := by decide +kernel
theorem dX10_plan_43 : decode cX10_plan 43 = .ok ((.aload_n 0), 1) := by decide +kernel
theorem dX10_plan_44 : decode cX10_plan 44 = .ok ((.getfield 64), 3) := by decide +kernel
theorem dX10_plan_47 : decode cX10_plan 47 = .ok ((.invokevirtual 290), 3) := by decide +kernel
theorem dX10_plan_50 : decode cX10_plan 50 = .ok ((.invokevirtual 294), 3) := by decide +kernel
theorem dX10_plan_53 : decode cX10_plan 53 = .ok (.ireturn, 1) := by decide +kernel
def p_X10_plan_27  (a1 : Int32) (a2 : Int32)   (post : Bool → vSt → Prop) (S : vSt)  : Prop := p_X10_settled  S 5 (fun r17 S16 => post r17 S16)
def p_X10_plan   (S : vSt) (a1 : Int32) (a2 : Int32) (post : Bool → vSt → Prop) : Prop := p_X0_hasPerson 10 S a1 (fun r15 S14 => ((r15 = true → ((a2 < 0 → p_X10_plan_27 a1 a2 post S14 ) ∧ (¬ a2 < 0 → ((a2 ≤ 10 → p_X10_seen  S14  (fun S16 => p_X3_bestSum  S16 a1 a2 (fun r18 S17 => p_X3_whole  S17  (fun r20 S19 => p_X10_tell  S19 r18 r20 (fun r22 S21 => post r22 S21))))) ∧ (¬ a2 ≤ 10 → p_X10_plan_27 a1 a2 post S14 ))))) ∧ (r15 = false → p_X10_settled  S14 2 (fun r24 S23 => post r24 S23))))
set_option maxHeartbeats 4000000 in
set_option maxRecDepth 100000 in
theorem q_X10_plan_27 {X : vX} {G : vG}  {post : Bool → vSt → Prop} (C : v_Cx X G cX10_plan RX10 3 (v_rm 6 176)) (D : v_Rx X G (v_Qz G post) (some .boolean))  {a1 : Int32} {a2 : Int32}   : ∀ (S : vSt), p_X10_plan_27 a1 a2 post S  → VJ X G S 27 [(0, .ref (G.1 0))] [] := by
  intro S  h
  refine V_aload_n C 0 dX10_plan_27 rfl rfl ?_
  refine V_iconst (v := 5) C dX10_plan_28 (by decide) ?_
  refine V_callVz (As := [.int 5]) (rest := []) C (c_X10_settled (v_l X) G  _ _ h) 0 10 (by decide) (by decide) (by decide) rfl KV_X10_settled k_RX10_116 rfl rfl rfl (Nat.le_of_ble_eq_true rfl) ⟨Nat.le_of_ble_eq_true rfl, Nat.le_of_ble_eq_true rfl⟩ dX10_plan_29 (fun r17 S16 h => ?_)
  exact V_zret C D dX10_plan_32 h
set_option maxHeartbeats 4000000 in
set_option maxRecDepth 100000 in
theorem c_X10_plan (l : Launch) (G : vG)    {S : vSt} (a1 : Int32) (a2 : Int32) (post : Bool → vSt → Prop) (h : p_X10_plan   S a1 a2 post) : Met l yX10_plan (v_ws yX10_plan cX10_plan 3 (some .boolean)) (v_rm 6 176) (v_Pc G [.ref (G.1 0), .int a1, .int a2] S) (v_Qz G post) 0 0 (v_A G) := by
  refine v_start (by decide +kernel) (Nat.le_of_ble_eq_true rfl) (fun X hl C D => ?_)
  subst hl
  have C : v_Cx X G cX10_plan RX10 3 (v_rm 6 176) := C
  show VJ X G S 0 [(0, .ref (G.1 0)), (1, .int a1), (2, .int a2)] []
  refine V_aload_n C 0 dX10_plan_0 rfl rfl ?_
  refine V_ga C 0 (by decide) (by decide) F_10_2 k_RX10_26 dX10_plan_1 ?_
  refine V_iload_n C 1 dX10_plan_4 rfl rfl ?_
  refine V_callVz (As := [.int a1]) (rest := []) C (c_X0_hasPerson (v_l X) G v_i10 _ _ h) 10 0 (by decide) (by decide) (by decide) rfl KV_X0_hasPerson k_RX10_188 rfl rfl rfl (Nat.le_of_ble_eq_true rfl) ⟨Nat.le_of_ble_eq_true rfl, Nat.le_of_ble_eq_true rfl⟩ dX10_plan_5 (fun r15 S14 h => ?_)
  refine V_ifb_ne (tgt := 17) C dX10_plan_8 (by decide) (fun c => ?_) (fun c => ?_)
  · have h := h.1 c
    refine V_iload_n C 2 dX10_plan_17 rfl rfl ?_
    refine V_if_lt (tgt := 27) C dX10_plan_18 (by decide) (fun c => ?_) (fun c => ?_)
    · have h := h.1 c
      refine V_loc (lv' := [(0, .ref (G.1 0))]) [0] rfl ?_
      exact q_X10_plan_27 C D  _ h
    · have h := h.2 c
      refine V_iload_n C 2 dX10_plan_21 rfl rfl ?_
      refine V_bipush (v := 10) C dX10_plan_22 (by decide) ?_
      refine V_icmp_le (tgt := 33) C dX10_plan_24 (by decide) (fun c => ?_) (fun c => ?_)
      · have h := h.1 c
        refine V_aload_n C 0 dX10_plan_33 rfl rfl ?_
        refine V_aload_n C 0 dX10_plan_34 rfl rfl ?_
        refine V_callVr (As := []) (rest := [.ref (G.1 0)]) C (c_X10_seen (v_l X) G  _ h) 0 10 (by decide) (by decide) (by decide) rfl KV_X10_seen k_RX10_307 rfl rfl rfl (Nat.le_of_ble_eq_true rfl) ⟨Nat.le_of_ble_eq_true rfl, Nat.le_of_ble_eq_true rfl⟩ dX10_plan_35 (fun S16 h => ?_)
        refine V_iload_n C 1 dX10_plan_38 rfl rfl ?_
        refine V_iload_n C 2 dX10_plan_39 rfl rfl ?_
        refine V_callVl (As := [.int a1, .int a2]) (rest := [.ref (G.1 0)]) C (c_X3_bestSum (v_l X) G  _ _ _ h) 58 3 (by decide) (by decide) (by decide) rfl KV_X3_bestSum k_RX10_323 rfl rfl rfl (Nat.le_of_ble_eq_true rfl) ⟨Nat.le_of_ble_eq_true rfl, Nat.le_of_ble_eq_true rfl⟩ dX10_plan_40 (fun r18 S17 h => ?_)
        refine V_aload_n C 0 dX10_plan_43 rfl rfl ?_
        refine V_ga C 0 (by decide) (by decide) F_10_7 k_RX10_64 dX10_plan_44 ?_
        refine V_callVl (As := []) (rest := [.long r18, .ref (G.1 0)]) C (c_X3_whole (v_l X) G  _ h) 58 3 (by decide) (by decide) (by decide) rfl KV_X3_whole k_RX10_290 rfl rfl rfl (Nat.le_of_ble_eq_true rfl) ⟨Nat.le_of_ble_eq_true rfl, Nat.le_of_ble_eq_true rfl⟩ dX10_plan_47 (fun r20 S19 h => ?_)
        refine V_callVz (As := [.long r18, .long r20]) (rest := []) C (c_X10_tell (v_l X) G  _ _ _ h) 0 10 (by decide) (by decide) (by decide) rfl KV_X10_tell k_RX10_294 rfl rfl rfl (Nat.le_of_ble_eq_true rfl) ⟨Nat.le_of_ble_eq_true rfl, Nat.le_of_ble_eq_true rfl⟩ dX10_plan_50 (fun r22 S21 h => ?_)
        exact V_zret C D dX10_plan_53 h
      · have h := h.2 c
        refine V_loc (lv' := [(0, .ref (G.1 0))]) [0] rfl ?_
        exact q_X10_plan_27 C D  _ h
  · have h := h.2 c
    refine V_aload_n C 0 dX10_plan_11 rfl rfl ?_
    refine V_iconst (v := 2) C dX10_plan_12 (by decide) ?_
    refine V_callVz (As := [.int 2]) (rest := []) C (c_X10_settled (v_l X) G  _ _ h) 0 10 (by decide) (by decide) (by decide) rfl KV_X10_settled k_RX10_116 rfl rfl rfl (Nat.le_of_ble_eq_true rfl) ⟨Nat.le_of_ble_eq_true rfl, Nat.le_of_ble_eq_true rfl⟩ dX10_plan_13 (fun r24 S23 h => ?_)
    exact V_zret C D dX10_plan_16 h
/-! HalfAccuser.accuser(I)I -/
theorem dX10_accuser_0 : decode cX10_accuser 0 = .ok ((.aload_n 0), 1) := by decide +kernel
theorem dX10_accuser_1 : decode cX10_accuser 1 = .ok ((.getfield 26), 3) := by decide +kernel
theorem dX10_accuser_4 : decode cX10_accuser 4 = .ok ((.iload_n 1), 1) := by decide +kernel
theorem dX10_accuser_5 : decode cX10_accuser 5 = .ok ((.invokevirtual 194), 3) := by decide +kernel
theorem dX10_accuser_8 : decode cX10_accuser 8 = .ok ((.ifCond .ne 9), 3) := by decide +kernel
theorem dX10_accuser_11 : decode cX10_accuser 11 = .ok ((.aload_n 0), 1) := by decide +kernel
theorem dX10_accuser_12 : decode cX10_accuser 12 = .ok ((.iconst 2), 1) := by decide +kernel
theorem dX10_accuser_13 : decode cX10_accuser 13 = .ok ((.invokevirtual 153), 3) := by decide +kernel
theorem dX10_accuser_16 : decode cX10_accuser 16 = .ok (.ireturn, 1) := by decide +kernel
theorem dX10_accuser_17 : decode cX10_accuser 17 = .ok ((.aload_n 0), 1) := by decide +kernel
theorem dX10_accuser_18 : decode cX10_accuser 18 = .ok ((.aload_n 0), 1) := by decide +kernel
theorem dX10_accuser_19 : decode cX10_accuser 19 = .ok ((.invokevirtual 307), 3) := by decide +kernel
theorem dX10_accuser_22 : decode cX10_accuser 22 = .ok ((.iload_n 1), 1) := by decide +kernel
theorem dX10_accuser_23 : decode cX10_accuser 23 = .ok ((.invokevirtual 326), 3) := by decide +kernel
theorem dX10_accuser_26 : decode cX10_accuser 26 = .ok ((.invokevirtual 320), 3) := by decide +kernel
theorem dX10_accuser_29 : decode cX10_accuser 29 = .ok (.ireturn, 1) := by decide +kernel
def p_X10_accuser   (S : vSt) (a1 : Int32) (post : Int32 → vSt → Prop) : Prop := p_X0_hasDeed 10 S a1 (fun r11 S10 => ((r11 = true → p_X10_seen  S10  (fun S12 => p_X3_bestAccuser  S12 a1 (fun r14 S13 => p_X10_toldIfAny  S13 r14 (fun r16 S15 => post r16 S15)))) ∧ (r11 = false → p_X10_refused  S10 2 (fun r18 S17 => post r18 S17))))
set_option maxHeartbeats 4000000 in
set_option maxRecDepth 100000 in
theorem c_X10_accuser (l : Launch) (G : vG)    {S : vSt} (a1 : Int32) (post : Int32 → vSt → Prop) (h : p_X10_accuser   S a1 post) : Met l yX10_accuser (v_ws yX10_accuser cX10_accuser 2 (some .int)) (v_rm 6 176) (v_Pc G [.ref (G.1 0), .int a1] S) (v_Qi G post) 0 0 (v_A G) := by
  refine v_start (by decide +kernel) (Nat.le_of_ble_eq_true rfl) (fun X hl C D => ?_)
  subst hl
  have C : v_Cx X G cX10_accuser RX10 2 (v_rm 6 176) := C
  show VJ X G S 0 [(0, .ref (G.1 0)), (1, .int a1)] []
  refine V_aload_n C 0 dX10_accuser_0 rfl rfl ?_
  refine V_ga C 0 (by decide) (by decide) F_10_2 k_RX10_26 dX10_accuser_1 ?_
  refine V_iload_n C 1 dX10_accuser_4 rfl rfl ?_
  refine V_callVz (As := [.int a1]) (rest := []) C (c_X0_hasDeed (v_l X) G v_i10 _ _ h) 10 0 (by decide) (by decide) (by decide) rfl KV_X0_hasDeed k_RX10_194 rfl rfl rfl (Nat.le_of_ble_eq_true rfl) ⟨Nat.le_of_ble_eq_true rfl, Nat.le_of_ble_eq_true rfl⟩ dX10_accuser_5 (fun r11 S10 h => ?_)
  refine V_ifb_ne (tgt := 17) C dX10_accuser_8 (by decide) (fun c => ?_) (fun c => ?_)
  · have h := h.1 c
    refine V_aload_n C 0 dX10_accuser_17 rfl rfl ?_
    refine V_aload_n C 0 dX10_accuser_18 rfl rfl ?_
    refine V_callVr (As := []) (rest := [.ref (G.1 0)]) C (c_X10_seen (v_l X) G  _ h) 0 10 (by decide) (by decide) (by decide) rfl KV_X10_seen k_RX10_307 rfl rfl rfl (Nat.le_of_ble_eq_true rfl) ⟨Nat.le_of_ble_eq_true rfl, Nat.le_of_ble_eq_true rfl⟩ dX10_accuser_19 (fun S12 h => ?_)
    refine V_iload_n C 1 dX10_accuser_22 rfl rfl ?_
    refine V_callVi (As := [.int a1]) (rest := [.ref (G.1 0)]) C (c_X3_bestAccuser (v_l X) G  _ _ h) 58 3 (by decide) (by decide) (by decide) rfl KV_X3_bestAccuser k_RX10_326 rfl rfl rfl (Nat.le_of_ble_eq_true rfl) ⟨Nat.le_of_ble_eq_true rfl, Nat.le_of_ble_eq_true rfl⟩ dX10_accuser_23 (fun r14 S13 h => ?_)
    refine V_callVi (As := [.int r14]) (rest := []) C (c_X10_toldIfAny (v_l X) G  _ _ h) 0 10 (by decide) (by decide) (by decide) rfl KV_X10_toldIfAny k_RX10_320 rfl rfl rfl (Nat.le_of_ble_eq_true rfl) ⟨Nat.le_of_ble_eq_true rfl, Nat.le_of_ble_eq_true rfl⟩ dX10_accuser_26 (fun r16 S15 h => ?_)
    exact V_iret C D dX10_accuser_29 h
  · have h := h.2 c
    refine V_aload_n C 0 dX10_accuser_11 rfl rfl ?_
    refine V_iconst (v := 2) C dX10_accuser_12 (by decide) ?_
    refine V_callVi (As := [.int 2]) (rest := []) C (c_X10_refused (v_l X) G  _ _ h) 0 10 (by decide) (by decide) (by decide) rfl KV_X10_refused k_RX10_153 rfl rfl rfl (Nat.le_of_ble_eq_true rfl) ⟨Nat.le_of_ble_eq_true rfl, Nat.le_of_ble_eq_true rfl⟩ dX10_accuser_13 (fun r18 S17 h => ?_)
    exact V_iret C D dX10_accuser_16 h
/-! HalfAccuser.dreaded(I)I -/
theorem dX10_dreaded_0 : decode cX10_dreaded 0 = .ok ((.aload_n 0), 1) := by decide +kernel
theorem dX10_dreaded_1 : decode cX10_dreaded 1 = .ok ((.getfield 26), 3) := by decide +kernel
theorem dX10_dreaded_4 : decode cX10_dreaded 4 = .ok ((.iload_n 1), 1) := by decide +kernel
theorem dX10_dreaded_5 : decode cX10_dreaded 5 = .ok ((.invokevirtual 188), 3) := by decide +kernel
theorem dX10_dreaded_8 : decode cX10_dreaded 8 = .ok ((.ifCond .ne 9), 3) := by decide +kernel
theorem dX10_dreaded_11 : decode cX10_dreaded 11 = .ok ((.aload_n 0), 1) := by decide +kernel
theorem dX10_dreaded_12 : decode cX10_dreaded 12 = .ok ((.iconst 2), 1) := by decide +kernel
theorem dX10_dreaded_13 : decode cX10_dreaded 13 = .ok ((.invokevirtual 153), 3) := by decide +kernel
theorem dX10_dreaded_16 : decode cX10_dreaded 16 = .ok (.ireturn, 1) := by decide +kernel
theorem dX10_dreaded_17 : decode cX10_dreaded 17 = .ok ((.aload_n 0), 1) := by decide +kernel
theorem dX10_dreaded_18 : decode cX10_dreaded 18 = .ok ((.aload_n 0), 1) := by decide +kernel
theorem dX10_dreaded_19 : decode cX10_dreaded 19 = .ok ((.invokevirtual 307), 3) := by decide +kernel
theorem dX10_dreaded_22 : decode cX10_dreaded 22 = .ok ((.iload_n 1), 1) := by decide +kernel
theorem dX10_dreaded_23 : decode cX10_dreaded 23 = .ok ((.invokevirtual 329), 3) := by decide +kernel
theorem dX10_dreaded_26 : decode cX10_dreaded 26 = .ok ((.invokevirtual 320), 3) := by decide +kernel
theorem dX10_dreaded_29 : decode cX10_dreaded 29 = .ok (.ireturn, 1) := by decide +kernel
def p_X10_dreaded   (S : vSt) (a1 : Int32) (post : Int32 → vSt → Prop) : Prop := p_X0_hasPerson 10 S a1 (fun r11 S10 => ((r11 = true → p_X10_seen  S10  (fun S12 => p_X3_worstDeed  S12 a1 (fun r14 S13 => p_X10_toldIfAny  S13 r14 (fun r16 S15 => post r16 S15)))) ∧ (r11 = false → p_X10_refused  S10 2 (fun r18 S17 => post r18 S17))))
set_option maxHeartbeats 4000000 in
set_option maxRecDepth 100000 in
theorem c_X10_dreaded (l : Launch) (G : vG)    {S : vSt} (a1 : Int32) (post : Int32 → vSt → Prop) (h : p_X10_dreaded   S a1 post) : Met l yX10_dreaded (v_ws yX10_dreaded cX10_dreaded 2 (some .int)) (v_rm 6 176) (v_Pc G [.ref (G.1 0), .int a1] S) (v_Qi G post) 0 0 (v_A G) := by
  refine v_start (by decide +kernel) (Nat.le_of_ble_eq_true rfl) (fun X hl C D => ?_)
  subst hl
  have C : v_Cx X G cX10_dreaded RX10 2 (v_rm 6 176) := C
  show VJ X G S 0 [(0, .ref (G.1 0)), (1, .int a1)] []
  refine V_aload_n C 0 dX10_dreaded_0 rfl rfl ?_
  refine V_ga C 0 (by decide) (by decide) F_10_2 k_RX10_26 dX10_dreaded_1 ?_
  refine V_iload_n C 1 dX10_dreaded_4 rfl rfl ?_
  refine V_callVz (As := [.int a1]) (rest := []) C (c_X0_hasPerson (v_l X) G v_i10 _ _ h) 10 0 (by decide) (by decide) (by decide) rfl KV_X0_hasPerson k_RX10_188 rfl rfl rfl (Nat.le_of_ble_eq_true rfl) ⟨Nat.le_of_ble_eq_true rfl, Nat.le_of_ble_eq_true rfl⟩ dX10_dreaded_5 (fun r11 S10 h => ?_)
  refine V_ifb_ne (tgt := 17) C dX10_dreaded_8 (by decide) (fun c => ?_) (fun c => ?_)
  · have h := h.1 c
    refine V_aload_n C 0 dX10_dreaded_17 rfl rfl ?_
    refine V_aload_n C 0 dX10_dreaded_18 rfl rfl ?_
    refine V_callVr (As := []) (rest := [.ref (G.1 0)]) C (c_X10_seen (v_l X) G  _ h) 0 10 (by decide) (by decide) (by decide) rfl KV_X10_seen k_RX10_307 rfl rfl rfl (Nat.le_of_ble_eq_true rfl) ⟨Nat.le_of_ble_eq_true rfl, Nat.le_of_ble_eq_true rfl⟩ dX10_dreaded_19 (fun S12 h => ?_)
    refine V_iload_n C 1 dX10_dreaded_22 rfl rfl ?_
    refine V_callVi (As := [.int a1]) (rest := [.ref (G.1 0)]) C (c_X3_worstDeed (v_l X) G  _ _ h) 58 3 (by decide) (by decide) (by decide) rfl KV_X3_worstDeed k_RX10_329 rfl rfl rfl (Nat.le_of_ble_eq_true rfl) ⟨Nat.le_of_ble_eq_true rfl, Nat.le_of_ble_eq_true rfl⟩ dX10_dreaded_23 (fun r14 S13 h => ?_)
    refine V_callVi (As := [.int r14]) (rest := []) C (c_X10_toldIfAny (v_l X) G  _ _ h) 0 10 (by decide) (by decide) (by decide) rfl KV_X10_toldIfAny k_RX10_320 rfl rfl rfl (Nat.le_of_ble_eq_true rfl) ⟨Nat.le_of_ble_eq_true rfl, Nat.le_of_ble_eq_true rfl⟩ dX10_dreaded_26 (fun r16 S15 h => ?_)
    exact V_iret C D dX10_dreaded_29 h
  · have h := h.2 c
    refine V_aload_n C 0 dX10_dreaded_11 rfl rfl ?_
    refine V_iconst (v := 2) C dX10_dreaded_12 (by decide) ?_
    refine V_callVi (As := [.int 2]) (rest := []) C (c_X10_refused (v_l X) G  _ _ h) 0 10 (by decide) (by decide) (by decide) rfl KV_X10_refused k_RX10_153 rfl rfl rfl (Nat.le_of_ble_eq_true rfl) ⟨Nat.le_of_ble_eq_true rfl, Nat.le_of_ble_eq_true rfl⟩ dX10_dreaded_13 (fun r18 S17 h => ?_)
    exact V_iret C D dX10_dreaded_16 h
/-! HalfAccuser.dread(I)Z -/
theorem dX10_dread_0 : decode cX10_dread 0 = .ok ((.aload_n 0), 1) := by decide +kernel
theorem dX10_dread_1 : decode cX10_dread 1 = .ok ((.getfield 26), 3) := by decide +kernel
theorem dX10_dread_4 : decode cX10_dread 4 = .ok ((.iload_n 1), 1) := by decide +kernel
theorem dX10_dread_5 : decode cX10_dread 5 = .ok ((.invokevirtual 188), 3) := by decide +kernel
theorem dX10_dread_8 : decode cX10_dread 8 = .ok ((.ifCond .ne 9), 3) := by decide +kernel
theorem dX10_dread_11 : decode cX10_dread 11 = .ok ((.aload_n 0), 1) := by decide +kernel
theorem dX10_dread_12 : decode cX10_dread 12 = .ok ((.iconst 2), 1) := by decide +kernel
theorem dX10_dread_13 : decode cX10_dread 13 = .ok ((.invokevirtual 116), 3) := by decide +kernel
theorem dX10_dread_16 : decode cX10_dread 16 = .ok (.ireturn, 1) := by decide +kernel
theorem dX10_dread_17 : decode cX10_dread 17 = .ok ((.aload_n 0), 1) := by decide +kernel
theorem dX10_dread_18 : decode cX10_dread 18 = .ok ((.aload_n 0), 1) := by decide +kernel
theorem dX10_dread_19 : decode cX10_dread 19 = .ok ((.invokevirtual 307), 3) := by decide +kernel
theorem dX10_dread_22 : decode cX10_dread 22 = .ok ((.iload_n 1), 1) := by decide +kernel
theorem dX10_dread_23 : decode cX10_dread 23 = .ok ((.invokevirtual 332), 3) := by decide +kernel
theorem dX10_dread_26 : decode cX10_dread 26 = .ok ((.aload_n 0), 1) := by decide +kernel
theorem dX10_dread_27 : decode cX10_dread 27 = .ok ((.getfield 64), 3) := by decide +kernel
theorem dX10_dread_30 : decode cX10_dread 30 = .ok ((.invokevirtual 290), 3) := by decide +kernel
theorem dX10_dread_33 : decode cX10_dread 33 = .ok ((.invokevirtual 294), 3) := by decide +kernel
theorem dX10_dread_36 : decode cX10_dread 36 = .ok (.ireturn, 1) := by decide +kernel
def p_X10_dread   (S : vSt) (a1 : Int32) (post : Bool → vSt → Prop) : Prop := p_X0_hasPerson 10 S a1 (fun r13 S12 => ((r13 = true → p_X10_seen  S12  (fun S14 => p_X3_dreadOf  S14 a1 (fun r16 S15 => p_X3_whole  S15  (fun r18 S17 => p_X10_tell  S17 r16 r18 (fun r20 S19 => post r20 S19))))) ∧ (r13 = false → p_X10_settled  S12 2 (fun r22 S21 => post r22 S21))))
set_option maxHeartbeats 4000000 in
set_option maxRecDepth 100000 in
theorem c_X10_dread (l : Launch) (G : vG)    {S : vSt} (a1 : Int32) (post : Bool → vSt → Prop) (h : p_X10_dread   S a1 post) : Met l yX10_dread (v_ws yX10_dread cX10_dread 2 (some .boolean)) (v_rm 6 176) (v_Pc G [.ref (G.1 0), .int a1] S) (v_Qz G post) 0 0 (v_A G) := by
  refine v_start (by decide +kernel) (Nat.le_of_ble_eq_true rfl) (fun X hl C D => ?_)
  subst hl
  have C : v_Cx X G cX10_dread RX10 2 (v_rm 6 176) := C
  show VJ X G S 0 [(0, .ref (G.1 0)), (1, .int a1)] []
  refine V_aload_n C 0 dX10_dread_0 rfl rfl ?_
  refine V_ga C 0 (by decide) (by decide) F_10_2 k_RX10_26 dX10_dread_1 ?_
  refine V_iload_n C 1 dX10_dread_4 rfl rfl ?_
  refine V_callVz (As := [.int a1]) (rest := []) C (c_X0_hasPerson (v_l X) G v_i10 _ _ h) 10 0 (by decide) (by decide) (by decide) rfl KV_X0_hasPerson k_RX10_188 rfl rfl rfl (Nat.le_of_ble_eq_true rfl) ⟨Nat.le_of_ble_eq_true rfl, Nat.le_of_ble_eq_true rfl⟩ dX10_dread_5 (fun r13 S12 h => ?_)
  refine V_ifb_ne (tgt := 17) C dX10_dread_8 (by decide) (fun c => ?_) (fun c => ?_)
  · have h := h.1 c
    refine V_aload_n C 0 dX10_dread_17 rfl rfl ?_
    refine V_aload_n C 0 dX10_dread_18 rfl rfl ?_
    refine V_callVr (As := []) (rest := [.ref (G.1 0)]) C (c_X10_seen (v_l X) G  _ h) 0 10 (by decide) (by decide) (by decide) rfl KV_X10_seen k_RX10_307 rfl rfl rfl (Nat.le_of_ble_eq_true rfl) ⟨Nat.le_of_ble_eq_true rfl, Nat.le_of_ble_eq_true rfl⟩ dX10_dread_19 (fun S14 h => ?_)
    refine V_iload_n C 1 dX10_dread_22 rfl rfl ?_
    refine V_callVl (As := [.int a1]) (rest := [.ref (G.1 0)]) C (c_X3_dreadOf (v_l X) G  _ _ h) 58 3 (by decide) (by decide) (by decide) rfl KV_X3_dreadOf k_RX10_332 rfl rfl rfl (Nat.le_of_ble_eq_true rfl) ⟨Nat.le_of_ble_eq_true rfl, Nat.le_of_ble_eq_true rfl⟩ dX10_dread_23 (fun r16 S15 h => ?_)
    refine V_aload_n C 0 dX10_dread_26 rfl rfl ?_
    refine V_ga C 0 (by decide) (by decide) F_10_7 k_RX10_64 dX10_dread_27 ?_
    refine V_callVl (As := []) (rest := [.long r16, .ref (G.1 0)]) C (c_X3_whole (v_l X) G  _ h) 58 3 (by decide) (by decide) (by decide) rfl KV_X3_whole k_RX10_290 rfl rfl rfl (Nat.le_of_ble_eq_true rfl) ⟨Nat.le_of_ble_eq_true rfl, Nat.le_of_ble_eq_true rfl⟩ dX10_dread_30 (fun r18 S17 h => ?_)
    refine V_callVz (As := [.long r16, .long r18]) (rest := []) C (c_X10_tell (v_l X) G  _ _ _ h) 0 10 (by decide) (by decide) (by decide) rfl KV_X10_tell k_RX10_294 rfl rfl rfl (Nat.le_of_ble_eq_true rfl) ⟨Nat.le_of_ble_eq_true rfl, Nat.le_of_ble_eq_true rfl⟩ dX10_dread_33 (fun r20 S19 h => ?_)
    exact V_zret C D dX10_dread_36 h
  · have h := h.2 c
    refine V_aload_n C 0 dX10_dread_11 rfl rfl ?_
    refine V_iconst (v := 2) C dX10_dread_12 (by decide) ?_
    refine V_callVz (As := [.int 2]) (rest := []) C (c_X10_settled (v_l X) G  _ _ h) 0 10 (by decide) (by decide) (by decide) rfl KV_X10_settled k_RX10_116 rfl rfl rfl (Nat.le_of_ble_eq_true rfl) ⟨Nat.le_of_ble_eq_true rfl, Nat.le_of_ble_eq_true rfl⟩ dX10_dread_13 (fun r22 S21 h => ?_)
    exact V_zret C D dX10_dread_16 h
/-! HalfAccuser.friend(I)I -/
theorem dX10_friend_0 : decode cX10_friend 0 = .ok ((.aload_n 0), 1) := by decide +kernel
theorem dX10_friend_1 : decode cX10_friend 1 = .ok ((.getfield 26), 3) := by decide +kernel
theorem dX10_friend_4 : decode cX10_friend 4 = .ok ((.iload_n 1), 1) := by decide +kernel
theorem dX10_friend_5 : decode cX10_friend 5 = .ok ((.invokevirtual 194), 3) := by decide +kernel
theorem dX10_friend_8 : decode cX10_friend 8 = .ok ((.ifCond .ne 9), 3) := by decide +kernel
theorem dX10_friend_11 : decode cX10_friend 11 = .ok ((.aload_n 0), 1) := by decide +kernel
theorem dX10_friend_12 : decode cX10_friend 12 = .ok ((.iconst 2), 1) := by decide +kernel
theorem dX10_friend_13 : decode cX10_friend 13 = .ok ((.invokevirtual 153), 3) := by decide +kernel
theorem dX10_friend_16 : decode cX10_friend 16 = .ok (.ireturn, 1) := by decide +kernel
theorem dX10_friend_17 : decode cX10_friend 17 = .ok ((.aload_n 0), 1) := by decide +kernel
theorem dX10_friend_18 : decode cX10_friend 18 = .ok ((.aload_n 0), 1) := by decide +kernel
theorem dX10_friend_19 : decode cX10_friend 19 = .ok ((.invokevirtual 307), 3) := by decide +kernel
theorem dX10_friend_22 : decode cX10_friend 22 = .ok ((.iload_n 1), 1) := by decide +kernel
theorem dX10_friend_23 : decode cX10_friend 23 = .ok ((.invokevirtual 336), 3) := by decide +kernel
theorem dX10_friend_26 : decode cX10_friend 26 = .ok ((.invokevirtual 320), 3) := by decide +kernel
theorem dX10_friend_29 : decode cX10_friend 29 = .ok (.ireturn, 1) := by decide +kernel
def p_X10_friend   (S : vSt) (a1 : Int32) (post : Int32 → vSt → Prop) : Prop := p_X0_hasDeed 10 S a1 (fun r11 S10 => ((r11 = true → p_X10_seen  S10  (fun S12 => p_X3_mildestAccuser  S12 a1 (fun r14 S13 => p_X10_toldIfAny  S13 r14 (fun r16 S15 => post r16 S15)))) ∧ (r11 = false → p_X10_refused  S10 2 (fun r18 S17 => post r18 S17))))
set_option maxHeartbeats 4000000 in
set_option maxRecDepth 100000 in
theorem c_X10_friend (l : Launch) (G : vG)    {S : vSt} (a1 : Int32) (post : Int32 → vSt → Prop) (h : p_X10_friend   S a1 post) : Met l yX10_friend (v_ws yX10_friend cX10_friend 2 (some .int)) (v_rm 6 176) (v_Pc G [.ref (G.1 0), .int a1] S) (v_Qi G post) 0 0 (v_A G) := by
  refine v_start (by decide +kernel) (Nat.le_of_ble_eq_true rfl) (fun X hl C D => ?_)
  subst hl
  have C : v_Cx X G cX10_friend RX10 2 (v_rm 6 176) := C
  show VJ X G S 0 [(0, .ref (G.1 0)), (1, .int a1)] []
  refine V_aload_n C 0 dX10_friend_0 rfl rfl ?_
  refine V_ga C 0 (by decide) (by decide) F_10_2 k_RX10_26 dX10_friend_1 ?_
  refine V_iload_n C 1 dX10_friend_4 rfl rfl ?_
  refine V_callVz (As := [.int a1]) (rest := []) C (c_X0_hasDeed (v_l X) G v_i10 _ _ h) 10 0 (by decide) (by decide) (by decide) rfl KV_X0_hasDeed k_RX10_194 rfl rfl rfl (Nat.le_of_ble_eq_true rfl) ⟨Nat.le_of_ble_eq_true rfl, Nat.le_of_ble_eq_true rfl⟩ dX10_friend_5 (fun r11 S10 h => ?_)
  refine V_ifb_ne (tgt := 17) C dX10_friend_8 (by decide) (fun c => ?_) (fun c => ?_)
  · have h := h.1 c
    refine V_aload_n C 0 dX10_friend_17 rfl rfl ?_
    refine V_aload_n C 0 dX10_friend_18 rfl rfl ?_
    refine V_callVr (As := []) (rest := [.ref (G.1 0)]) C (c_X10_seen (v_l X) G  _ h) 0 10 (by decide) (by decide) (by decide) rfl KV_X10_seen k_RX10_307 rfl rfl rfl (Nat.le_of_ble_eq_true rfl) ⟨Nat.le_of_ble_eq_true rfl, Nat.le_of_ble_eq_true rfl⟩ dX10_friend_19 (fun S12 h => ?_)
    refine V_iload_n C 1 dX10_friend_22 rfl rfl ?_
    refine V_callVi (As := [.int a1]) (rest := [.ref (G.1 0)]) C (c_X3_mildestAccuser (v_l X) G  _ _ h) 58 3 (by decide) (by decide) (by decide) rfl KV_X3_mildestAccuser k_RX10_336 rfl rfl rfl (Nat.le_of_ble_eq_true rfl) ⟨Nat.le_of_ble_eq_true rfl, Nat.le_of_ble_eq_true rfl⟩ dX10_friend_23 (fun r14 S13 h => ?_)
    refine V_callVi (As := [.int r14]) (rest := []) C (c_X10_toldIfAny (v_l X) G  _ _ h) 0 10 (by decide) (by decide) (by decide) rfl KV_X10_toldIfAny k_RX10_320 rfl rfl rfl (Nat.le_of_ble_eq_true rfl) ⟨Nat.le_of_ble_eq_true rfl, Nat.le_of_ble_eq_true rfl⟩ dX10_friend_26 (fun r16 S15 h => ?_)
    exact V_iret C D dX10_friend_29 h
  · have h := h.2 c
    refine V_aload_n C 0 dX10_friend_11 rfl rfl ?_
    refine V_iconst (v := 2) C dX10_friend_12 (by decide) ?_
    refine V_callVi (As := [.int 2]) (rest := []) C (c_X10_refused (v_l X) G  _ _ h) 0 10 (by decide) (by decide) (by decide) rfl KV_X10_refused k_RX10_153 rfl rfl rfl (Nat.le_of_ble_eq_true rfl) ⟨Nat.le_of_ble_eq_true rfl, Nat.le_of_ble_eq_true rfl⟩ dX10_friend_13 (fun r18 S17 h => ?_)
    exact V_iret C D dX10_friend_16 h
/-! HalfAccuser.quiet()I -/
theorem dX10_quiet_0 : decode cX10_quiet 0 = .ok ((.aload_n 0), 1) := by decide +kernel
theorem dX10_quiet_1 : decode cX10_quiet 1 = .ok ((.aload_n 0), 1) := by decide +kernel
theorem dX10_quiet_2 : decode cX10_quiet 2 = .ok ((.getfield 26), 3) := by decide +kernel
theorem dX10_quiet_5 : decode cX10_quiet 5 = .ok ((.invokevirtual 339), 3) := by decide +kernel
theorem dX10_quiet_8 : decode cX10_quiet 8 = .ok ((.aload_n 0), 1) := by decide +kernel
theorem dX10_quiet_9 : decode cX10_quiet 9 = .ok ((.invokevirtual 307), 3) := by decide +kernel
theorem dX10_quiet_12 : decode cX10_quiet 12 = .ok ((.aload_n 0), 1) := by decide +kernel
theorem dX10_quiet_13 : decode cX10_quiet 13 = .ok ((.getfield 26), 3) := by decide +kernel
theorem dX10_quiet_16 : decode cX10_quiet 16 = .ok ((.iconst 3), 1) := by decide +kernel
theorem dX10_quiet_17 : decode cX10_quiet 17 = .ok ((.invokevirtual 220), 3) := by decide +kernel
theorem dX10_quiet_20 : decode cX10_quiet 20 = .ok ((.aload_n 0), 1) := by decide +kernel
theorem dX10_quiet_21 : decode cX10_quiet 21 = .ok ((.getfield 26), 3) := by decide +kernel
theorem dX10_quiet_24 : decode cX10_quiet 24 = .ok ((.iconst 2), 1) := by decide +kernel
theorem dX10_quiet_25 : decode cX10_quiet 25 = .ok ((.invokevirtual 220), 3) := by decide +kernel
theorem dX10_quiet_28 : decode cX10_quiet 28 = .ok ((.invokevirtual 343), 3) := by decide +kernel
theorem dX10_quiet_31 : decode cX10_quiet 31 = .ok ((.iconst (-1)), 1) := by decide +kernel
theorem dX10_quiet_32 : decode cX10_quiet 32 = .ok (.ixor, 1) := by decide +kernel
theorem dX10_quiet_33 : decode cX10_quiet 33 = .ok (.iand, 1) := by decide +kernel
theorem dX10_quiet_34 : decode cX10_quiet 34 = .ok ((.invokevirtual 173), 3) := by decide +kernel
theorem dX10_quiet_37 : decode cX10_quiet 37 = .ok (.ireturn, 1) := by decide +kernel
def p_X10_quiet   (S : vSt)  (post : Int32 → vSt → Prop) : Prop := p_X0_openDeeds 10 S  (fun r13 S12 => p_X10_seen  S12  (fun S14 => p_X0_ruleOf 10 S14 3 (fun r16 S15 => p_X0_ruleOf 10 S15 2 (fun r18 S17 => p_X3_gladSet  S17 r16 r18 (fun r20 S19 => p_X10_told  S19 (r13 &&& (r20 ^^^ (-1))) (fun r22 S21 => post r22 S21))))))
set_option maxHeartbeats 4000000 in
set_option maxRecDepth 100000 in
theorem c_X10_quiet (l : Launch) (G : vG)    {S : vSt}  (post : Int32 → vSt → Prop) (h : p_X10_quiet   S  post) : Met l yX10_quiet (v_ws yX10_quiet cX10_quiet 1 (some .int)) (v_rm 6 176) (v_Pc G [.ref (G.1 0)] S) (v_Qi G post) 0 0 (v_A G) := by
  refine v_start (by decide +kernel) (Nat.le_of_ble_eq_true rfl) (fun X hl C D => ?_)
  subst hl
  have C : v_Cx X G cX10_quiet RX10 1 (v_rm 6 176) := C
  show VJ X G S 0 [(0, .ref (G.1 0))] []
  refine V_aload_n C 0 dX10_quiet_0 rfl rfl ?_
  refine V_aload_n C 0 dX10_quiet_1 rfl rfl ?_
  refine V_ga C 0 (by decide) (by decide) F_10_2 k_RX10_26 dX10_quiet_2 ?_
  refine V_callVi (As := []) (rest := [.ref (G.1 0)]) C (c_X0_openDeeds (v_l X) G v_i10 _ h) 10 0 (by decide) (by decide) (by decide) rfl KV_X0_openDeeds k_RX10_339 rfl rfl rfl (Nat.le_of_ble_eq_true rfl) ⟨Nat.le_of_ble_eq_true rfl, Nat.le_of_ble_eq_true rfl⟩ dX10_quiet_5 (fun r13 S12 h => ?_)
  refine V_aload_n C 0 dX10_quiet_8 rfl rfl ?_
  refine V_callVr (As := []) (rest := [.int r13, .ref (G.1 0)]) C (c_X10_seen (v_l X) G  _ h) 0 10 (by decide) (by decide) (by decide) rfl KV_X10_seen k_RX10_307 rfl rfl rfl (Nat.le_of_ble_eq_true rfl) ⟨Nat.le_of_ble_eq_true rfl, Nat.le_of_ble_eq_true rfl⟩ dX10_quiet_9 (fun S14 h => ?_)
  refine V_aload_n C 0 dX10_quiet_12 rfl rfl ?_
  refine V_ga C 0 (by decide) (by decide) F_10_2 k_RX10_26 dX10_quiet_13 ?_
  refine V_iconst (v := 3) C dX10_quiet_16 (by decide) ?_
  refine V_callVi (As := [.int 3]) (rest := [.ref (G.1 58), .int r13, .ref (G.1 0)]) C (c_X0_ruleOf (v_l X) G v_i10 _ _ h) 10 0 (by decide) (by decide) (by decide) rfl KV_X0_ruleOf k_RX10_220 rfl rfl rfl (Nat.le_of_ble_eq_true rfl) ⟨Nat.le_of_ble_eq_true rfl, Nat.le_of_ble_eq_true rfl⟩ dX10_quiet_17 (fun r16 S15 h => ?_)
  refine V_aload_n C 0 dX10_quiet_20 rfl rfl ?_
  refine V_ga C 0 (by decide) (by decide) F_10_2 k_RX10_26 dX10_quiet_21 ?_
  refine V_iconst (v := 2) C dX10_quiet_24 (by decide) ?_
  refine V_callVi (As := [.int 2]) (rest := [.int r16, .ref (G.1 58), .int r13, .ref (G.1 0)]) C (c_X0_ruleOf (v_l X) G v_i10 _ _ h) 10 0 (by decide) (by decide) (by decide) rfl KV_X0_ruleOf k_RX10_220 rfl rfl rfl (Nat.le_of_ble_eq_true rfl) ⟨Nat.le_of_ble_eq_true rfl, Nat.le_of_ble_eq_true rfl⟩ dX10_quiet_25 (fun r18 S17 h => ?_)
  refine V_callVi (As := [.int r16, .int r18]) (rest := [.int r13, .ref (G.1 0)]) C (c_X3_gladSet (v_l X) G  _ _ _ h) 58 3 (by decide) (by decide) (by decide) rfl KV_X3_gladSet k_RX10_343 rfl rfl rfl (Nat.le_of_ble_eq_true rfl) ⟨Nat.le_of_ble_eq_true rfl, Nat.le_of_ble_eq_true rfl⟩ dX10_quiet_28 (fun r20 S19 h => ?_)
  refine V_iconst (v := (-1)) C dX10_quiet_31 (by decide) ?_
  refine V_ixor C dX10_quiet_32 ?_
  refine V_iand C dX10_quiet_33 ?_
  refine V_callVi (As := [.int (r13 &&& (r20 ^^^ (-1)))]) (rest := []) C (c_X10_told (v_l X) G  _ _ h) 0 10 (by decide) (by decide) (by decide) rfl KV_X10_told k_RX10_173 rfl rfl rfl (Nat.le_of_ble_eq_true rfl) ⟨Nat.le_of_ble_eq_true rfl, Nat.le_of_ble_eq_true rfl⟩ dX10_quiet_34 (fun r22 S21 h => ?_)
  exact V_iret C D dX10_quiet_37 h
/-! HalfAccuser.trade(III)I -/
theorem dX10_trade_0 : decode cX10_trade 0 = .ok ((.aload_n 0), 1) := by decide +kernel
theorem dX10_trade_1 : decode cX10_trade 1 = .ok ((.iload_n 1), 1) := by decide +kernel
theorem dX10_trade_2 : decode cX10_trade 2 = .ok ((.iload_n 2), 1) := by decide +kernel
theorem dX10_trade_3 : decode cX10_trade 3 = .ok ((.invokevirtual 216), 3) := by decide +kernel
theorem dX10_trade_6 : decode cX10_trade 6 = .ok ((.ifCond .ne 9), 3) := by decide +kernel
theorem dX10_trade_9 : decode cX10_trade 9 = .ok ((.aload_n 0), 1) := by decide +kernel
theorem dX10_trade_10 : decode cX10_trade 10 = .ok ((.iconst 2), 1) := by decide +kernel
theorem dX10_trade_11 : decode cX10_trade 11 = .ok ((.invokevirtual 153), 3) := by decide +kernel
theorem dX10_trade_14 : decode cX10_trade 14 = .ok (.ireturn, 1) := by decide +kernel
theorem dX10_trade_15 : decode cX10_trade 15 = .ok ((.iload_n 3), 1) := by decide +kernel
theorem dX10_trade_16 : decode cX10_trade 16 = .ok ((.ifCond .lt 8), 3) := by decide +kernel
theorem dX10_trade_19 : decode cX10_trade 19 = .ok ((.iload_n 3), 1) := by decide +kernel
theorem dX10_trade_20 : decode cX10_trade 20 = .ok ((.iconst 1), 1) := by decide +kernel
theorem dX10_trade_21 : decode cX10_trade 21 = .ok ((.if_icmp .le 9), 3) := by decide +kernel
theorem dX10_trade_24 : decode cX10_trade 24 = .ok ((.aload_n 0), 1) := by decide +kernel
theorem dX10_trade_25 : decode cX10_trade 25 = .ok ((.iconst 5), 1) := by decide +kernel
theorem dX10_trade_26 : decode cX10_trade 26 = .ok ((.invokevirtual 153), 3) := by decide +kernel
theorem dX10_trade_29 : decode cX10_trade 29 = .ok (.ireturn, 1) := by decide +kernel
theorem dX10_trade_30 : decode cX10_trade 30 = .ok ((.aload_n 0), 1) := by decide +kernel
theorem dX10_trade_31 : decode cX10_trade 31 = .ok ((.getfield 26), 3) := by decide +kernel
theorem dX10_trade_34 : decode cX10_trade 34 = .ok ((.iload_n 1), 1) := by decide +kernel
theorem dX10_trade_35 : decode cX10_trade 35 = .ok ((.iload_n 2), 1) := by decide +kernel
theorem dX10_trade_36 : decode cX10_trade 36 = .ok ((.invokevirtual 223), 3) := by decide +kernel
theorem dX10_trade_39 : decode cX10_trade 39 = .ok ((.ifCond .ne 10), 3) := by decide +kernel
theorem dX10_trade_42 : decode cX10_trade 42 = .ok ((.aload_n 0), 1) := by decide +kernel
theorem dX10_trade_43 : decode cX10_trade 43 = .ok ((.bipush 9), 2) := by decide +kernel
theorem dX10_trade_45 : decode cX10_trade 45 = .ok ((.invokevirtual 153), 3) := by decide +kernel
theorem dX10_trade_48 : decode cX10_trade 48 = .ok (.ireturn, 1) := by decide +kernel
theorem dX10_trade_49 : decode cX10_trade 49 = .ok ((.aload_n 0), 1) := by decide +kernel
theorem dX10_trade_50 : decode cX10_trade 50 = .ok ((.invokevirtual 307), 3) := by decide +kernel
theorem dX10_trade_53 : decode cX10_trade 53 = .ok ((.iload_n 1), 1) := by decide +kernel
theorem dX10_trade_54 : decode cX10_trade 54 = .ok ((.iload_n 2), 1) := by decide +kernel
theorem dX10_trade_55 : decode cX10_trade 55 = .ok ((.invokevirtual 346), 3) := by decide +kernel
theorem dX10_trade_58 : decode cX10_trade 58 = .ok ((.istore 4), 2) := by decide +kernel
theorem dX10_trade_60 : decode cX10_trade 60 = .ok ((.aload_n 0), 1) := by decide +kernel
theorem dX10_trade_61 : decode cX10_trade 61 = .ok ((.getfield 64), 3) := by decide +kernel
theorem dX10_trade_64 : decode cX10_trade 64 = .ok ((.iload_n 1), 1) := by decide +kernel
theorem dX10_trade_65 : decode cX10_trade 65 = .ok ((.iload_n 2), 1) := by decide +kernel
theorem dX10_trade_66 : decode cX10_trade 66 = .ok ((.invokevirtual 349), 3) := by decide +kernel
theorem dX10_trade_69 : decode cX10_trade 69 = .ok ((.istore 5), 2) := by decide +kernel
theorem dX10_trade_71 : decode cX10_trade 71 = .ok ((.iload 4), 2) := by decide +kernel
theorem dX10_trade_73 : decode cX10_trade 73 = .ok ((.iload 5), 2) := by decide +kernel
theorem dX10_trade_75 : decode cX10_trade 75 = .ok ((.if_icmp .le 10), 3) := by decide +kernel
theorem dX10_trade_78 : decode cX10_trade 78 = .ok ((.aload_n 0), 1) := by decide +kernel
theorem dX10_trade_79 : decode cX10_trade 79 = .ok ((.bipush 8), 2) := by decide +kernel
theorem dX10_trade_81 : decode cX10_trade 81 = .ok ((.invokevirtual 153), 3) := by decide +kernel
theorem dX10_trade_84 : decode cX10_trade 84 = .ok (.ireturn, 1) := by decide +kernel
theorem dX10_trade_85 : decode cX10_trade 85 = .ok ((.aload_n 0), 1) := by decide +kernel
theorem dX10_trade_86 : decode cX10_trade 86 = .ok ((.iload_n 3), 1) := by decide +kernel
theorem dX10_trade_87 : decode cX10_trade 87 = .ok ((.ifCond .ne 8), 3) := by decide +kernel
theorem dX10_trade_90 : decode cX10_trade 90 = .ok ((.iload 4), 2) := by decide +kernel
theorem dX10_trade_92 : decode cX10_trade 92 = .ok ((.goto 5), 3) := by decide +kernel
theorem dX10_trade_95 : decode cX10_trade 95 = .ok ((.iload 5), 2) := by decide +kernel
theorem dX10_trade_97 : decode cX10_trade 97 = .ok ((.invokevirtual 173), 3) := by decide +kernel
theorem dX10_trade_100 : decode cX10_trade 100 = .ok (.ireturn, 1) := by decide +kernel
def p_X10_trade_24  (a1 : Int32) (a2 : Int32) (a3 : Int32)   (post : Int32 → vSt → Prop) (S : vSt)  : Prop := p_X10_refused  S 5 (fun r23 S22 => post r23 S22)
def p_X10_trade_97  (a1 : Int32) (a2 : Int32) (a3 : Int32)   (post : Int32 → vSt → Prop) (S : vSt) (s0 : Int32) : Prop := p_X10_told  S s0 (fun r30 S29 => post r30 S29)
def p_X10_trade   (S : vSt) (a1 : Int32) (a2 : Int32) (a3 : Int32) (post : Int32 → vSt → Prop) : Prop := p_X10_areThere  S a1 a2 (fun r21 S20 => ((r21 = true → ((a3 < 0 → p_X10_trade_24 a1 a2 a3 post S20 ) ∧ (¬ a3 < 0 → ((a3 ≤ 1 → p_X0_mayCharge 10 S20 a1 a2 (fun r23 S22 => ((r23 = true → p_X10_seen  S22  (fun S24 => p_X3_fewestCoins  S24 a1 a2 (fun r26 S25 => p_X3_mostCoins  S25 a1 a2 (fun r28 S27 => ((r26 ≤ r28 → ((¬ a3 = 0 → p_X10_trade_97 a1 a2 a3 post S27 r28) ∧ (a3 = 0 → p_X10_trade_97 a1 a2 a3 post S27 r26))) ∧ (¬ r26 ≤ r28 → p_X10_refused  S27 8 (fun r30 S29 => post r30 S29))))))) ∧ (r23 = false → p_X10_refused  S22 9 (fun r32 S31 => post r32 S31))))) ∧ (¬ a3 ≤ 1 → p_X10_trade_24 a1 a2 a3 post S20 ))))) ∧ (r21 = false → p_X10_refused  S20 2 (fun r34 S33 => post r34 S33))))
set_option maxHeartbeats 4000000 in
set_option maxRecDepth 100000 in
theorem q_X10_trade_24 {X : vX} {G : vG}  {post : Int32 → vSt → Prop} (C : v_Cx X G cX10_trade RX10 6 (v_rm 6 176)) (D : v_Rx X G (v_Qi G post) (some .int))  {a1 : Int32} {a2 : Int32} {a3 : Int32}   : ∀ (S : vSt), p_X10_trade_24 a1 a2 a3 post S  → VJ X G S 24 [(0, .ref (G.1 0))] [] := by
  intro S  h
  refine V_aload_n C 0 dX10_trade_24 rfl rfl ?_
  refine V_iconst (v := 5) C dX10_trade_25 (by decide) ?_
  refine V_callVi (As := [.int 5]) (rest := []) C (c_X10_refused (v_l X) G  _ _ h) 0 10 (by decide) (by decide) (by decide) rfl KV_X10_refused k_RX10_153 rfl rfl rfl (Nat.le_of_ble_eq_true rfl) ⟨Nat.le_of_ble_eq_true rfl, Nat.le_of_ble_eq_true rfl⟩ dX10_trade_26 (fun r23 S22 h => ?_)
  exact V_iret C D dX10_trade_29 h
set_option maxHeartbeats 4000000 in
set_option maxRecDepth 100000 in
theorem q_X10_trade_97 {X : vX} {G : vG}  {post : Int32 → vSt → Prop} (C : v_Cx X G cX10_trade RX10 6 (v_rm 6 176)) (D : v_Rx X G (v_Qi G post) (some .int))  {a1 : Int32} {a2 : Int32} {a3 : Int32}   : ∀ (S : vSt) (s0 : Int32), p_X10_trade_97 a1 a2 a3 post S s0 → VJ X G S 97 [] [.int s0, .ref (G.1 0)] := by
  intro S s0 h
  refine V_callVi (As := [.int s0]) (rest := []) C (c_X10_told (v_l X) G  _ _ h) 0 10 (by decide) (by decide) (by decide) rfl KV_X10_told k_RX10_173 rfl rfl rfl (Nat.le_of_ble_eq_true rfl) ⟨Nat.le_of_ble_eq_true rfl, Nat.le_of_ble_eq_true rfl⟩ dX10_trade_97 (fun r30 S29 h => ?_)
  exact V_iret C D dX10_trade_100 h
set_option maxHeartbeats 4000000 in
set_option maxRecDepth 100000 in
theorem c_X10_trade (l : Launch) (G : vG)    {S : vSt} (a1 : Int32) (a2 : Int32) (a3 : Int32) (post : Int32 → vSt → Prop) (h : p_X10_trade   S a1 a2 a3 post) : Met l yX10_trade (v_ws yX10_trade cX10_trade 6 (some .int)) (v_rm 6 176) (v_Pc G [.ref (G.1 0), .int a1, .int a2, .int a3] S) (v_Qi G post) 0 0 (v_A G) := by
  refine v_start (by decide +kernel) (Nat.le_of_ble_eq_true rfl) (fun X hl C D => ?_)
  subst hl
  have C : v_Cx X G cX10_trade RX10 6 (v_rm 6 176) := C
  show VJ X G S 0 [(0, .ref (G.1 0)), (1, .int a1), (2, .int a2), (3, .int a3)] []
  refine V_aload_n C 0 dX10_trade_0 rfl rfl ?_
  refine V_iload_n C 1 dX10_trade_1 rfl rfl ?_
  refine V_iload_n C 2 dX10_trade_2 rfl rfl ?_
  refine V_callVz (As := [.int a1, .int a2]) (rest := []) C (c_X10_areThere (v_l X) G  _ _ _ h) 0 10 (by decide) (by decide) (by decide) rfl KV_X10_areThere k_RX10_216 rfl rfl rfl (Nat.le_of_ble_eq_true rfl) ⟨Nat.le_of_ble_eq_true rfl, Nat.le_of_ble_eq_true rfl⟩ dX10_trade_3 (fun r21 S20 h => ?_)
  refine V_ifb_ne (tgt := 15) C dX10_trade_6 (by decide) (fun c => ?_) (fun c => ?_)
  · have h := h.1 c
    refine V_iload_n C 3 dX10_trade_15 rfl rfl ?_
    refine V_if_lt (tgt := 24) C dX10_trade_16 (by decide) (fun c => ?_) (fun c => ?_)
    · have h := h.1 c
      refine V_loc (lv' := [(0, .ref (G.1 0))]) [0] rfl ?_
      exact q_X10_trade_24 C D  _ h
    · have h := h.2 c
      refine V_iload_n C 3 dX10_trade_19 rfl rfl ?_
      refine V_iconst (v := 1) C dX10_trade_20 (by decide) ?_
      refine V_icmp_le (tgt := 30) C dX10_trade_21 (by decide) (fun c => ?_) (fun c => ?_)
      · have h := h.1 c
        refine V_aload_n C 0 dX10_trade_30 rfl rfl ?_
        refine V_ga C 0 (by decide) (by decide) F_10_2 k_RX10_26 dX10_trade_31 ?_
        refine V_iload_n C 1 dX10_trade_34 rfl rfl ?_
        refine V_iload_n C 2 dX10_trade_35 rfl rfl ?_
        refine V_callVz (As := [.int a1, .int a2]) (rest := []) C (c_X0_mayCharge (v_l X) G v_i10 _ _ _ h) 10 0 (by decide) (by decide) (by decide) rfl KV_X0_mayCharge k_RX10_223 rfl rfl rfl (Nat.le_of_ble_eq_true rfl) ⟨Nat.le_of_ble_eq_true rfl, Nat.le_of_ble_eq_true rfl⟩ dX10_trade_36 (fun r23 S22 h => ?_)
        refine V_ifb_ne (tgt := 49) C dX10_trade_39 (by decide) (fun c => ?_) (fun c => ?_)
        · have h := h.1 c
          refine V_aload_n C 0 dX10_trade_49 rfl rfl ?_
          refine V_callVr (As := []) (rest := []) C (c_X10_seen (v_l X) G  _ h) 0 10 (by decide) (by decide) (by decide) rfl KV_X10_seen k_RX10_307 rfl rfl rfl (Nat.le_of_ble_eq_true rfl) ⟨Nat.le_of_ble_eq_true rfl, Nat.le_of_ble_eq_true rfl⟩ dX10_trade_50 (fun S24 h => ?_)
          refine V_iload_n C 1 dX10_trade_53 rfl rfl ?_
          refine V_iload_n C 2 dX10_trade_54 rfl rfl ?_
          refine V_callVi (As := [.int a1, .int a2]) (rest := []) C (c_X3_fewestCoins (v_l X) G  _ _ _ h) 58 3 (by decide) (by decide) (by decide) rfl KV_X3_fewestCoins k_RX10_346 rfl rfl rfl (Nat.le_of_ble_eq_true rfl) ⟨Nat.le_of_ble_eq_true rfl, Nat.le_of_ble_eq_true rfl⟩ dX10_trade_55 (fun r26 S25 h => ?_)
          refine V_istore (lv' := [(0, .ref (G.1 0)), (1, .int a1), (2, .int a2), (3, .int a3), (4, .int r26)]) C [1, 2, 3, 4, 0] dX10_trade_58 (by decide) rfl ?_
          refine V_aload_n C 0 dX10_trade_60 rfl rfl ?_
          refine V_ga C 0 (by decide) (by decide) F_10_7 k_RX10_64 dX10_trade_61 ?_
          refine V_iload_n C 1 dX10_trade_64 rfl rfl ?_
          refine V_iload_n C 2 dX10_trade_65 rfl rfl ?_
          refine V_callVi (As := [.int a1, .int a2]) (rest := []) C (c_X3_mostCoins (v_l X) G  _ _ _ h) 58 3 (by decide) (by decide) (by decide) rfl KV_X3_mostCoins k_RX10_349 rfl rfl rfl (Nat.le_of_ble_eq_true rfl) ⟨Nat.le_of_ble_eq_true rfl, Nat.le_of_ble_eq_true rfl⟩ dX10_trade_66 (fun r28 S27 h => ?_)
          refine V_istore (lv' := [(0, .ref (G.1 0)), (1, .int a1), (2, .int a2), (3, .int a3), (4, .int r26), (5, .int r28)]) C [1, 2, 3, 4, 5, 0] dX10_trade_69 (by decide) rfl ?_
          refine V_iload C 4 dX10_trade_71 rfl ?_
          refine V_iload C 5 dX10_trade_73 rfl ?_
          refine V_icmp_le (tgt := 85) C dX10_trade_75 (by decide) (fun c => ?_) (fun c => ?_)
          · have h := h.1 c
            refine V_aload_n C 0 dX10_trade_85 rfl rfl ?_
            refine V_iload_n C 3 dX10_trade_86 rfl rfl ?_
            refine V_if_ne (tgt := 95) C dX10_trade_87 (by decide) (fun c => ?_) (fun c => ?_)
            · have h := h.1 c
              refine V_iload C 5 dX10_trade_95 rfl ?_
              refine V_loc (lv' := []) [] rfl ?_
              exact q_X10_trade_97 C D  _ _ h
            · have h := h.2 c
              refine V_iload C 4 dX10_trade_90 rfl ?_
              refine V_goto (tgt := 97) C dX10_trade_92 (by decide) ?_
              refine V_loc (lv' := []) [] rfl ?_
              exact q_X10_trade_97 C D  _ _ h
          · have h := h.2 c
            refine V_aload_n C 0 dX10_trade_78 rfl rfl ?_
            refine V_bipush (v := 8) C dX10_trade_79 (by decide) ?_
            refine V_callVi (As := [.int 8]) (rest := []) C (c_X10_refused (v_l X) G  _ _ h) 0 10 (by decide) (by decide) (by decide) rfl KV_X10_refused k_RX10_153 rfl rfl rfl (Nat.le_of_ble_eq_true rfl) ⟨Nat.le_of_ble_eq_true rfl, Nat.le_of_ble_eq_true rfl⟩ dX10_trade_81 (fun r30 S29 h => ?_)
            exact V_iret C D dX10_trade_84 h
        · have h := h.2 c
          refine V_aload_n C 0 dX10_trade_42 rfl rfl ?_
          refine V_bipush (v := 9) C dX10_trade_43 (by decide) ?_
          refine V_callVi (As := [.int 9]) (rest := []) C (c_X10_refused (v_l X) G  _ _ h) 0 10 (by decide) (by decide) (by decide) rfl KV_X10_refused k_RX10_153 rfl rfl rfl (Nat.le_of_ble_eq_true rfl) ⟨Nat.le_of_ble_eq_true rfl, Nat.le_of_ble_eq_true rfl⟩ dX10_trade_45 (fun r32 S31 h => ?_)
          exact V_iret C D dX10_trade_48 h
      · have h := h.2 c
        refine V_loc (lv' := [(0, .ref (G.1 0))]) [0] rfl ?_
        exact q_X10_trade_24 C D  _ h
  · have h := h.2 c
    refine V_aload_n C 0 dX10_trade_9 rfl rfl ?_
    refine V_iconst (v := 2) C dX10_trade_10 (by decide) ?_
    refine V_callVi (As := [.int 2]) (rest := []) C (c_X10_refused (v_l X) G  _ _ h) 0 10 (by decide) (by decide) (by decide) rfl KV_X10_refused k_RX10_153 rfl rfl rfl (Nat.le_of_ble_eq_true rfl) ⟨Nat.le_of_ble_eq_true rfl, Nat.le_of_ble_eq_true rfl⟩ dX10_trade_11 (fun r34 S33 h => ?_)
    exact V_iret C D dX10_trade_14 h
