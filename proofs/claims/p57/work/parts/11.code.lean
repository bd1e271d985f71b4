/-! HalfAccuser$Hopes.cellOf(II)I -/
theorem dX3_cellOf_0 : decode cX3_cellOf 0 = .ok ((.iload_n 0), 1) := by decide +kernel
theorem dX3_cellOf_1 : decode cX3_cellOf 1 = .ok ((.bipush 10), 2) := by decide +kernel
theorem dX3_cellOf_3 : decode cX3_cellOf 3 = .ok (.imul, 1) := by decide +kernel
theorem dX3_cellOf_4 : decode cX3_cellOf 4 = .ok ((.iload_n 1), 1) := by decide +kernel
theorem dX3_cellOf_5 : decode cX3_cellOf 5 = .ok (.iadd, 1) := by decide +kernel
theorem dX3_cellOf_6 : decode cX3_cellOf 6 = .ok (.ireturn, 1) := by decide +kernel
def p_X3_cellOf   (S : vSt) (a0 : Int32) (a1 : Int32) (post : Int32 → vSt → Prop) : Prop := post ((a0 * 10) + a1) S
set_option maxHeartbeats 4000000 in
set_option maxRecDepth 100000 in
theorem c_X3_cellOf (l : Launch) (G : vG)    {S : vSt} (a0 : Int32) (a1 : Int32) (post : Int32 → vSt → Prop) (h : p_X3_cellOf   S a0 a1 post) : Met l yX3_cellOf (v_ws yX3_cellOf cX3_cellOf 2 (some .int)) (v_rm 0 40) (v_Pc G [.int a0, .int a1] S) (v_Qi G post) 0 0 (v_A G) := by
  refine v_start (by decide +kernel) (Nat.le_of_ble_eq_true rfl) (fun X hl C D => ?_)
  subst hl
  have C : v_Cx X G cX3_cellOf RX3 2 (v_rm 0 40) := C
  show VJ X G S 0 [(0, .int a0), (1, .int a1)] []
  refine V_iload_n C 0 dX3_cellOf_0 rfl rfl ?_
  refine V_bipush (v := 10) C dX3_cellOf_1 (by decide) ?_
  refine V_imul C dX3_cellOf_3 ?_
  refine V_iload_n C 1 dX3_cellOf_4 rfl rfl ?_
  refine V_iadd C dX3_cellOf_5 ?_
  exact V_iret C D dX3_cellOf_6 h
/-! HalfAccuser$Hopes.gainOf(II)J -/
theorem dX3_gainOf_0 : decode cX3_gainOf 0 = .ok ((.aload_n 0), 1) := by decide +kernel
theorem dX3_gainOf_1 : decode cX3_gainOf 1 = .ok ((.getfield 27), 3) := by decide +kernel
theorem dX3_gainOf_4 : decode cX3_gainOf 4 = .ok ((.iload_n 1), 1) := by decide +kernel
theorem dX3_gainOf_5 : decode cX3_gainOf 5 = .ok ((.iload_n 2), 1) := by decide +kernel
theorem dX3_gainOf_6 : decode cX3_gainOf 6 = .ok ((.invokestatic 89), 3) := by decide +kernel
theorem dX3_gainOf_9 : decode cX3_gainOf 9 = .ok ((.invokestatic 60), 3) := by decide +kernel
theorem dX3_gainOf_12 : decode cX3_gainOf 12 = .ok (.lreturn, 1) := by decide +kernel
def p_X3_gainOf   (S : vSt) (a1 : Int32) (a2 : Int32) (post : Int64 → vSt → Prop) : Prop := p_X3_cellOf  S a1 a2 (fun r6 S5 => p_X10_at_ 64 80 S5 r6 (fun r8 S7 => post r8 S7))
set_option maxHeartbeats 4000000 in
set_option maxRecDepth 100000 in
theorem c_X3_gainOf (l : Launch) (G : vG)    {S : vSt} (a1 : Int32) (a2 : Int32) (post : Int64 → vSt → Prop) (h : p_X3_gainOf   S a1 a2 post) : Met l yX3_gainOf (v_ws yX3_gainOf cX3_gainOf 3 (some .long)) (v_rm 1 61) (v_Pc G [.ref (G.1 58), .int a1, .int a2] S) (v_Ql G post) 0 0 (v_A G) := by
  refine v_start (by decide +kernel) (Nat.le_of_ble_eq_true rfl) (fun X hl C D => ?_)
  subst hl
  have C : v_Cx X G cX3_gainOf RX3 3 (v_rm 1 61) := C
  show VJ X G S 0 [(0, .ref (G.1 58)), (1, .int a1), (2, .int a2)] []
  refine V_aload_n C 0 dX3_gainOf_0 rfl rfl ?_
  refine V_ga C 58 (by decide) (by decide) F_3_6 k_RX3_27 dX3_gainOf_1 ?_
  refine V_iload_n C 1 dX3_gainOf_4 rfl rfl ?_
  refine V_iload_n C 2 dX3_gainOf_5 rfl rfl ?_
  refine V_callSi (As := [.int a1, .int a2]) (rest := [.ref (G.1 64)]) C (c_X3_cellOf (v_l X) G  _ _ _ h) KV_X3_cellOf k_RX3_89 rfl rfl rfl (Nat.le_of_ble_eq_true rfl) ⟨Nat.le_of_ble_eq_true rfl, Nat.le_of_ble_eq_true rfl⟩ dX3_gainOf_6 (fun r6 S5 h => ?_)
  refine V_callSNl (As := [.ref (G.1 64), .int r6]) (rest := []) C (c_X10_at_ (v_l X) G (by decide) (by decide) _ _ h) KV_X10_at_ (List.mem_of_getElem? (i := 10) rfl) rfl rfl rfl (Nat.le_of_ble_eq_true rfl) ⟨Nat.le_of_ble_eq_true rfl, Nat.le_of_ble_eq_true rfl⟩ dX3_gainOf_9 (fun r8 S7 h => ?_)
  exact V_lret C D dX3_gainOf_12 h
/-! HalfAccuser$Hopes.lossOf(II)J -/
theorem dX3_lossOf_0 : decode cX3_lossOf 0 = .ok ((.aload_n 0), 1) := by decide +kernel
theorem dX3_lossOf_1 : decode cX3_lossOf 1 = .ok ((.getfield 30), 3) := by decide +kernel
theorem dX3_lossOf_4 : decode cX3_lossOf 4 = .ok ((.iload_n 1), 1) := by decide +kernel
theorem dX3_lossOf_5 : decode cX3_lossOf 5 = .ok ((.iload_n 2), 1) := by decide +kernel
theorem dX3_lossOf_6 : decode cX3_lossOf 6 = .ok ((.invokestatic 89), 3) := by decide +kernel
theorem dX3_lossOf_9 : decode cX3_lossOf 9 = .ok ((.invokestatic 60), 3) := by decide +kernel
theorem dX3_lossOf_12 : decode cX3_lossOf 12 = .ok (.lreturn, 1) := by decide +kernel
def p_X3_lossOf   (S : vSt) (a1 : Int32) (a2 : Int32) (post : Int64 → vSt → Prop) : Prop := p_X3_cellOf  S a1 a2 (fun r6 S5 => p_X10_at_ 65 80 S5 r6 (fun r8 S7 => post r8 S7))
set_option maxHeartbeats 4000000 in
set_option maxRecDepth 100000 in
theorem c_X3_lossOf (l : Launch) (G : vG)    {S : vSt} (a1 : Int32) (a2 : Int32) (post : Int64 → vSt → Prop) (h : p_X3_lossOf   S a1 a2 post) : Met l yX3_lossOf (v_ws yX3_lossOf cX3_lossOf 3 (some .long)) (v_rm 1 61) (v_Pc G [.ref (G.1 58), .int a1, .int a2] S) (v_Ql G post) 0 0 (v_A G) := by
  refine v_start (by decide +kernel) (Nat.le_of_ble_eq_true rfl) (fun X hl C D => ?_)
  subst hl
  have C : v_Cx X G cX3_lossOf RX3 3 (v_rm 1 61) := C
  show VJ X G S 0 [(0, .ref (G.1 58)), (1, .int a1), (2, .int a2)] []
  refine V_aload_n C 0 dX3_lossOf_0 rfl rfl ?_
  refine V_ga C 58 (by decide) (by decide) F_3_7 k_RX3_30 dX3_lossOf_1 ?_
  refine V_iload_n C 1 dX3_lossOf_4 rfl rfl ?_
  refine V_iload_n C 2 dX3_lossOf_5 rfl rfl ?_
  refine V_callSi (As := [.int a1, .int a2]) (rest := [.ref (G.1 65)]) C (c_X3_cellOf (v_l X) G  _ _ _ h) KV_X3_cellOf k_RX3_89 rfl rfl rfl (Nat.le_of_ble_eq_true rfl) ⟨Nat.le_of_ble_eq_true rfl, Nat.le_of_ble_eq_true rfl⟩ dX3_lossOf_6 (fun r6 S5 h => ?_)
  refine V_callSNl (As := [.ref (G.1 65), .int r6]) (rest := []) C (c_X10_at_ (v_l X) G (by decide) (by decide) _ _ h) KV_X10_at_ (List.mem_of_getElem? (i := 10) rfl) rfl rfl rfl (Nat.le_of_ble_eq_true rfl) ⟨Nat.le_of_ble_eq_true rfl, Nat.le_of_ble_eq_true rfl⟩ dX3_lossOf_9 (fun r8 S7 h => ?_)
  exact V_lret C D dX3_lossOf_12 h
/-! HalfAccuser$Games.setGame(III)V -/
theorem dX2_setGame_0 : decode cX2_setGame 0 = .ok ((.aload_n 0), 1) := by decide +kernel
theorem dX2_setGame_1 : decode cX2_setGame 1 = .ok ((.iload_n 3), 1) := by decide +kernel
theorem dX2_setGame_2 : decode cX2_setGame 2 = .ok ((.putfield 30), 3) := by decide +kernel
theorem dX2_setGame_5 : decode cX2_setGame 5 = .ok ((.iconst 0), 1) := by decide +kernel
theorem dX2_setGame_6 : decode cX2_setGame 6 = .ok ((.istore 4), 2) := by decide +kernel
theorem dX2_setGame_8 : decode cX2_setGame 8 = .ok ((.iload 4), 2) := by decide +kernel
theorem dX2_setGame_10 : decode cX2_setGame 10 = .ok ((.aload_n 0), 1) := by decide +kernel
theorem dX2_setGame_11 : decode cX2_setGame 11 = .ok ((.getfield 22), 3) := by decide +kernel
theorem dX2_setGame_14 : decode cX2_setGame 14 = .ok ((.getfield 34), 3) := by decide +kernel
theorem dX2_setGame_17 : decode cX2_setGame 17 = .ok ((.if_icmp .ge 152), 3) := by decide +kernel
theorem dX2_setGame_20 : decode cX2_setGame 20 = .ok ((.aload_n 0), 1) := by decide +kernel
theorem dX2_setGame_21 : decode cX2_setGame 21 = .ok ((.getfield 9), 3) := by decide +kernel
theorem dX2_setGame_24 : decode cX2_setGame 24 = .ok ((.iload 4), 2) := by decide +kernel
theorem dX2_setGame_26 : decode cX2_setGame 26 = .ok ((.iconst 0), 1) := by decide +kernel
theorem dX2_setGame_27 : decode cX2_setGame 27 = .ok ((.invokestatic 39), 3) := by decide +kernel
theorem dX2_setGame_30 : decode cX2_setGame 30 = .ok ((.aload_n 0), 1) := by decide +kernel
theorem dX2_setGame_31 : decode cX2_setGame 31 = .ok ((.getfield 22), 3) := by decide +kernel
theorem dX2_setGame_34 : decode cX2_setGame 34 = .ok ((.iload_n 2), 1) := by decide +kernel
theorem dX2_setGame_35 : decode cX2_setGame 35 = .ok ((.iload 4), 2) := by decide +kernel
theorem dX2_setGame_37 : decode cX2_setGame 37 = .ok ((.invokevirtual 43), 3) := by decide +kernel
theorem dX2_setGame_40 : decode cX2_setGame 40 = .ok ((.ifCond .eq 56), 3) := by decide +kernel
theorem dX2_setGame_43 : decode cX2_setGame 43 = .ok ((.aload_n 0), 1) := by decide +kernel
theorem dX2_setGame_44 : decode cX2_setGame 44 = .ok ((.getfield 22), 3) := by decide +kernel
theorem dX2_setGame_47 : decode cX2_setGame 47 = .ok ((.iload_n 1), 1) := by decide +kernel
theorem dX2_setGame_48 : decode cX2_setGame 48 = .ok ((.iload 4), 2) := by decide +kernel
theorem dX2_setGame_50 : decode cX2_setGame 50 = .ok ((.invokevirtual 47), 3) := by decide +kernel
theorem dX2_setGame_53 : decode cX2_setGame 53 = .ok ((.ifCond .eq 43), 3) := by decide +kernel
theorem dX2_setGame_56 : decode cX2_setGame 56 = .ok ((.aload_n 0), 1) := by decide +kernel
theorem dX2_setGame_57 : decode cX2_setGame 57 = .ok ((.getfield 9), 3) := by decide +kernel
theorem dX2_setGame_60 : decode cX2_setGame 60 = .ok ((.iload 4), 2) := by decide +kernel
theorem dX2_setGame_62 : decode cX2_setGame 62 = .ok ((.iconst 1), 1) := by decide +kernel
theorem dX2_setGame_63 : decode cX2_setGame 63 = .ok ((.invokestatic 39), 3) := by decide +kernel
theorem dX2_setGame_66 : decode cX2_setGame 66 = .ok ((.aload_n 0), 1) := by decide +kernel
theorem dX2_setGame_67 : decode cX2_setGame 67 = .ok ((.getfield 15), 3) := by decide +kernel
theorem dX2_setGame_70 : decode cX2_setGame 70 = .ok ((.iload 4), 2) := by decide +kernel
theorem dX2_setGame_72 : decode cX2_setGame 72 = .ok ((.aload_n 0), 1) := by decide +kernel
theorem dX2_setGame_73 : decode cX2_setGame 73 = .ok ((.getfield 26), 3) := by decide +kernel
theorem dX2_setGame_76 : decode cX2_setGame 76 = .ok ((.iload_n 1), 1) := by decide +kernel
theorem dX2_setGame_77 : decode cX2_setGame 77 = .ok ((.iload 4), 2) := by decide +kernel
theorem dX2_setGame_79 : decode cX2_setGame 79 = .ok ((.invokevirtual 50), 3) := by decide +kernel
theorem dX2_setGame_82 : decode cX2_setGame 82 = .ok ((.aload_n 0), 1) := by decide +kernel
theorem dX2_setGame_83 : decode cX2_setGame 83 = .ok ((.getfield 26), 3) := by decide +kernel
theorem dX2_setGame_86 : decode cX2_setGame 86 = .ok ((.iload_n 1), 1) := by decide +kernel
theorem dX2_setGame_87 : decode cX2_setGame 87 = .ok ((.iload 4), 2) := by decide +kernel
theorem dX2_setGame_89 : decode cX2_setGame 89 = .ok ((.invokevirtual 56), 3) := by decide +kernel
theorem dX2_setGame_92 : decode cX2_setGame 92 = .ok (.ladd, 1) := by decide +kernel
theorem dX2_setGame_93 : decode cX2_setGame 93 = .ok ((.invokestatic 59), 3) := by decide +kernel
theorem dX2_setGame_96 : decode cX2_setGame 96 = .ok ((.aload_n 0), 1) := by decide +kernel
theorem dX2_setGame_97 : decode cX2_setGame 97 = .ok ((.getfield 22), 3) := by decide +kernel
theorem dX2_setGame_100 : decode cX2_setGame 100 = .ok ((.iload_n 1), 1) := by decide +kernel
theorem dX2_setGame_101 : decode cX2_setGame 101 = .ok ((.iload 4), 2) := by decide +kernel
theorem dX2_setGame_103 : decode cX2_setGame 103 = .ok ((.invokevirtual 43), 3) := by decide +kernel
theorem dX2_setGame_106 : decode cX2_setGame 106 = .ok ((.ifCond .eq 57), 3) := by decide +kernel
theorem dX2_setGame_109 : decode cX2_setGame 109 = .ok ((.aload_n 0), 1) := by decide +kernel
theorem dX2_setGame_110 : decode cX2_setGame 110 = .ok ((.getfield 22), 3) := by decide +kernel
theorem dX2_setGame_113 : decode cX2_setGame 113 = .ok ((.iload_n 2), 1) := by decide +kernel
theorem dX2_setGame_114 : decode cX2_setGame 114 = .ok ((.iload 4), 2) := by decide +kernel
theorem dX2_setGame_116 : decode cX2_setGame 116 = .ok ((.invokevirtual 47), 3) := by decide +kernel
theorem dX2_setGame_119 : decode cX2_setGame 119 = .ok ((.ifCond .eq 44), 3) := by decide +kernel
theorem dX2_setGame_122 : decode cX2_setGame 122 = .ok ((.aload_n 0), 1) := by decide +kernel
theorem dX2_setGame_123 : decode cX2_setGame 123 = .ok ((.getfield 9), 3) := by decide +kernel
theorem dX2_setGame_126 : decode cX2_setGame 126 = .ok ((.iload 4), 2) := by decide +kernel
theorem dX2_setGame_128 : decode cX2_setGame 128 = .ok ((.iconst 2), 1) := by decide +kernel
theorem dX2_setGame_129 : decode cX2_setGame 129 = .ok ((.invokestatic 39), 3) := by decide +kernel
theorem dX2_setGame_132 : decode cX2_setGame 132 = .ok ((.aload_n 0), 1) := by decide +kernel
theorem dX2_setGame_133 : decode cX2_setGame 133 = .ok ((.getfield 15), 3) := by decide +kernel
theorem dX2_setGame_136 : decode cX2_setGame 136 = .ok ((.iload 4), 2) := by decide +kernel
theorem dX2_setGame_138 : decode cX2_setGame 138 = .ok ((.aload_n 0), 1) := by decide +kernel
theorem dX2_setGame_139 : decode cX2_setGame 139 = .ok ((.getfield 26), 3) := by decide +kernel
theorem dX2_setGame_142 : decode cX2_setGame 142 = .ok ((.iload_n 2), 1) := by decide +kernel
theorem dX2_setGame_143 : decode cX2_setGame 143 = .ok ((.iload 4), 2) := by decide +kernel
theorem dX2_setGame_145 : decode cX2_setGame 145 = .ok ((.invokevirtual 50), 3) := by decide +kernel
theorem dX2_setGame_148 : decode cX2_setGame 148 = .ok (.lneg, 1) := by decide +kernel
theorem dX2_setGame_149 : decode cX2_setGame 149 = .ok ((.aload_n 0), 1) := by decide +kernel
theorem dX2_setGame_150 : decode cX2_setGame 150 = .ok ((.getfield 26), 3) := by decide +kernel
theorem dX2_setGame_153 : decode cX2_setGame 153 = .ok ((.iload_n 2), 1) := by decide +kernel
theorem dX2_setGame_154 : decode cX2_setGame 154 = .ok ((.iload 4), 2) := by decide +kernel
theorem dX2_setGame_156 : decode cX2_setGame 156 = .ok ((.invokevirtual 56), 3) := by decide +kernel
theorem dX2_setGame_159 : decode cX2_setGame 159 = .ok (.lsub, 1) := by decide +kernel
theorem dX2_setGame_160 : decode cX2_setGame 160 = .ok ((.invokestatic 59), 3) := by decide +kernel
theorem dX2_setGame_163 : decode cX2_setGame 163 = .ok ((.iinc 4 1), 3) := by decide +kernel
theorem dX2_setGame_166 : decode cX2_setGame 166 = .ok ((.goto (-158)), 3) := by decide +kernel
theorem dX2_setGame_169 : decode cX2_setGame 169 = .ok (.return_, 1) := by decide +kernel
def p_X2_setGame_163  (a1 : Int32) (a2 : Int32) (a3 : Int32)  (K8 : vSt → Int32 → Prop) (post : vSt → Prop) (S : vSt) (x4 : Int32) : Prop := ∀ y52 : Int32, y52 = x4 + 1 → K8 S y52
def p_X2_setGame_96  (a1 : Int32) (a2 : Int32) (a3 : Int32)  (K8 : vSt → Int32 → Prop) (post : vSt → Prop) (S : vSt) (x4 : Int32) : Prop := p_X0_isOwn 10 S a1 x4 (fun r51 S50 => ((r51 = false → p_X2_setGame_163 a1 a2 a3 K8 post S50 x4) ∧ (r51 = true → p_X0_mayCharge 10 S50 a2 x4 (fun r53 S52 => ((r53 = false → p_X2_setGame_163 a1 a2 a3 K8 post S52 x4) ∧ (r53 = true → p_X10_put 69 10 S52 x4 2 (fun S54 => p_X3_gainOf  S54 a2 x4 (fun r56 S55 => p_X3_lossOf  S55 a2 x4 (fun r58 S57 => p_X10_put_ 70 10 S57 x4 ((-r56) - r58) (fun S59 => p_X2_setGame_163 a1 a2 a3 K8 post S59 x4))))))))))
def p_X2_setGame_8  (a1 : Int32) (a2 : Int32) (a3 : Int32)   (post : vSt → Prop) : Nat → vSt → Int32 → Prop
  | 0 => fun _ _ => False
  | fu8 + 1 => fun S x4 => (((S.1 10 16) ≤ x4 → post S) ∧ (¬ (S.1 10 16) ≤ x4 → p_X10_put 69 10 S x4 0 (fun S47 => p_X0_isOwn 10 S47 a2 x4 (fun r49 S48 => ((r49 = false → p_X2_setGame_96 a1 a2 a3 (p_X2_setGame_8 a1 a2 a3 post fu8) post S48 x4) ∧ (r49 = true → p_X0_mayCharge 10 S48 a1 x4 (fun r51 S50 => ((r51 = false → p_X2_setGame_96 a1 a2 a3 (p_X2_setGame_8 a1 a2 a3 post fu8) post S50 x4) ∧ (r51 = true → p_X10_put 69 10 S50 x4 1 (fun S52 => p_X3_gainOf  S52 a1 x4 (fun r54 S53 => p_X3_lossOf  S53 a1 x4 (fun r56 S55 => p_X10_put_ 70 10 S55 x4 (r54 + r56) (fun S57 => p_X2_setGame_96 a1 a2 a3 (p_X2_setGame_8 a1 a2 a3 post fu8) post S57 x4)))))))))))))
theorem e_X2_setGame_8  (a1 : Int32) (a2 : Int32) (a3 : Int32)   (post : vSt → Prop) (fu8 : Nat) (S : vSt) (x4 : Int32) : p_X2_setGame_8 a1 a2 a3 post (fu8 + 1) S x4 = ((((S.1 10 16) ≤ x4 → post S) ∧ (¬ (S.1 10 16) ≤ x4 → p_X10_put 69 10 S x4 0 (fun S47 => p_X0_isOwn 10 S47 a2 x4 (fun r49 S48 => ((r49 = false → p_X2_setGame_96 a1 a2 a3 (p_X2_setGame_8 a1 a2 a3 post fu8) post S48 x4) ∧ (r49 = true → p_X0_mayCharge 10 S48 a1 x4 (fun r51 S50 => ((r51 = false → p_X2_setGame_96 a1 a2 a3 (p_X2_setGame_8 a1 a2 a3 post fu8) post S50 x4) ∧ (r51 = true → p_X10_put 69 10 S50 x4 1 (fun S52 => p_X3_gainOf  S52 a1 x4 (fun r54 S53 => p_X3_lossOf  S53 a1 x4 (fun r56 S55 => p_X10_put_ 70 10 S55 x4 (r54 + r56) (fun S57 => p_X2_setGame_96 a1 a2 a3 (p_X2_setGame_8 a1 a2 a3 post fu8) post S57 x4)))))))))))))) := rfl
def p_X2_setGame   (S : vSt) (a1 : Int32) (a2 : Int32) (a3 : Int32) (post : vSt → Prop) : Prop := ∀ S46, S46 = v_si S 68 5 a3 → ∃ fu8, p_X2_setGame_8 a1 a2 a3 post fu8 S46 0
set_option maxHeartbeats 4000000 in
set_option maxRecDepth 100000 in
theorem q_X2_setGame_163 {X : vX} {G : vG}  {post : vSt → Prop} (C : v_Cx X G cX2_setGame RX2 5 (v_rm 3 105)) (D : v_Rx X G (v_Qv G post) none)  {a1 : Int32} {a2 : Int32} {a3 : Int32}  {K8 : vSt → Int32 → Prop} (hK8 : ∀ S x4, K8 S x4 → VJ X G S 8 [(0, .ref (G.1 68)), (1, .int a1), (2, .int a2), (4, .int x4)] []) : ∀ (S : vSt) (x4 : Int32), p_X2_setGame_163 a1 a2 a3 K8 post S x4 → VJ X G S 163 [(0, .ref (G.1 68)), (1, .int a1), (2, .int a2), (4, .int x4)] [] := by
  intro S x4 h
  obtain ⟨y52, ey52⟩ : ∃ z : Int32, z = x4 + 1 := ⟨_, rfl⟩
  have h := h y52 ey52
  refine V_iinc (lv' := [(0, .ref (G.1 68)), (1, .int a1), (2, .int a2), (4, .int y52)]) C 3 [1, 2, 3, 0] y52 dX2_setGame_163 rfl (by rw [ey52]; rfl) (by decide) rfl ?_
  refine V_goto (tgt := 8) C dX2_setGame_166 (by decide) ?_
  exact hK8 _ _ h
set_option maxHeartbeats 4000000 in
set_option maxRecDepth 100000 in
theorem q_X2_setGame_96 {X : vX} {G : vG}  {post : vSt → Prop} (C : v_Cx X G cX2_setGame RX2 5 (v_rm 3 105)) (D : v_Rx X G (v_Qv G post) none)  {a1 : Int32} {a2 : Int32} {a3 : Int32}  {K8 : vSt → Int32 → Prop} (hK8 : ∀ S x4, K8 S x4 → VJ X G S 8 [(0, .ref (G.1 68)), (1, .int a1), (2, .int a2), (4, .int x4)] []) : ∀ (S : vSt) (x4 : Int32), p_X2_setGame_96 a1 a2 a3 K8 post S x4 → VJ X G S 96 [(0, .ref (G.1 68)), (1, .int a1), (2, .int a2), (4, .int x4)] [] := by
  intro S x4 h
  refine V_aload_n C 0 dX2_setGame_96 rfl rfl ?_
  refine V_ga C 68 (by decide) (by decide) F_2_0 k_RX2_22 dX2_setGame_97 ?_
  refine V_iload_n C 1 dX2_setGame_100 rfl rfl ?_
  refine V_iload C 3 dX2_setGame_101 rfl ?_
  refine V_callVz (As := [.int a1, .int x4]) (rest := []) C (c_X0_isOwn (v_l X) G v_i10 _ _ _ h) 10 0 (by decide) (by decide) (by decide) rfl KV_X0_isOwn k_RX2_43 rfl rfl rfl (Nat.le_of_ble_eq_true rfl) ⟨Nat.le_of_ble_eq_true rfl, Nat.le_of_ble_eq_true rfl⟩ dX2_setGame_103 (fun r51 S50 h => ?_)
  refine V_ifb_eq (tgt := 163) C dX2_setGame_106 (by decide) (fun c => ?_) (fun c => ?_)
  · have h := h.1 c
    exact q_X2_setGame_163 C D hK8 _ _ h
  · have h := h.2 c
    refine V_aload_n C 0 dX2_setGame_109 rfl rfl ?_
    refine V_ga C 68 (by decide) (by decide) F_2_0 k_RX2_22 dX2_setGame_110 ?_
    refine V_iload_n C 2 dX2_setGame_113 rfl rfl ?_
    refine V_iload C 3 dX2_setGame_114 rfl ?_
    refine V_callVz (As := [.int a2, .int x4]) (rest := []) C (c_X0_mayCharge (v_l X) G v_i10 _ _ _ h) 10 0 (by decide) (by decide) (by decide) rfl KV_X0_mayCharge k_RX2_47 rfl rfl rfl (Nat.le_of_ble_eq_true rfl) ⟨Nat.le_of_ble_eq_true rfl, Nat.le_of_ble_eq_true rfl⟩ dX2_setGame_116 (fun r53 S52 h => ?_)
    refine V_ifb_eq (tgt := 163) C dX2_setGame_119 (by decide) (fun c => ?_) (fun c => ?_)
    · have h := h.1 c
      exact q_X2_setGame_163 C D hK8 _ _ h
    · have h := h.2 c
      refine V_aload_n C 0 dX2_setGame_122 rfl rfl ?_
      refine V_ga C 68 (by decide) (by decide) F_2_2 k_RX2_9 dX2_setGame_123 ?_
      refine V_iload C 3 dX2_setGame_126 rfl ?_
      refine V_iconst (v := 2) C dX2_setGame_128 (by decide) ?_
      refine V_callSNv (As := [.ref (G.1 69), .int x4, .int 2]) (rest := []) C (c_X10_put (v_l X) G (by decide) (by decide) _ _ _ h) KV_X10_put (List.mem_of_getElem? (i := 14) rfl) rfl rfl rfl (Nat.le_of_ble_eq_true rfl) ⟨Nat.le_of_ble_eq_true rfl, Nat.le_of_ble_eq_true rfl⟩ dX2_setGame_129 (fun S54 h => ?_)
      refine V_aload_n C 0 dX2_setGame_132 rfl rfl ?_
      refine V_ga C 68 (by decide) (by decide) F_2_3 k_RX2_15 dX2_setGame_133 ?_
      refine V_iload C 3 dX2_setGame_136 rfl ?_
      refine V_aload_n C 0 dX2_setGame_138 rfl rfl ?_
      refine V_ga C 68 (by decide) (by decide) F_2_1 k_RX2_26 dX2_setGame_139 ?_
      refine V_iload_n C 2 dX2_setGame_142 rfl rfl ?_
      refine V_iload C 3 dX2_setGame_143 rfl ?_
      refine V_callVl (As := [.int a2, .int x4]) (rest := [.int x4, .ref (G.1 70)]) C (c_X3_gainOf (v_l X) G  _ _ _ h) 58 3 (by decide) (by decide) (by decide) rfl KV_X3_gainOf k_RX2_50 rfl rfl rfl (Nat.le_of_ble_eq_true rfl) ⟨Nat.le_of_ble_eq_true rfl, Nat.le_of_ble_eq_true rfl⟩ dX2_setGame_145 (fun r56 S55 h => ?_)
      refine V_lneg C dX2_setGame_148 ?_
      refine V_aload_n C 0 dX2_setGame_149 rfl rfl ?_
      refine V_ga C 68 (by decide) (by decide) F_2_1 k_RX2_26 dX2_setGame_150 ?_
      refine V_iload_n C 2 dX2_setGame_153 rfl rfl ?_
      refine V_iload C 3 dX2_setGame_154 rfl ?_
      refine V_callVl (As := [.int a2, .int x4]) (rest := [.long (-r56), .int x4, .ref (G.1 70)]) C (c_X3_lossOf (v_l X) G  _ _ _ h) 58 3 (by decide) (by decide) (by decide) rfl KV_X3_lossOf k_RX2_56 rfl rfl rfl (Nat.le_of_ble_eq_true rfl) ⟨Nat.le_of_ble_eq_true rfl, Nat.le_of_ble_eq_true rfl⟩ dX2_setGame_156 (fun r58 S57 h => ?_)
      refine V_lsub C dX2_setGame_159 ?_
      refine V_callSNv (As := [.ref (G.1 70), .int x4, .long ((-r56) - r58)]) (rest := []) C (c_X10_put_ (v_l X) G (by decide) (by decide) _ _ _ h) KV_X10_put_ (List.mem_of_getElem? (i := 15) rfl) rfl rfl rfl (Nat.le_of_ble_eq_true rfl) ⟨Nat.le_of_ble_eq_true rfl, Nat.le_of_ble_eq_true rfl⟩ dX2_setGame_160 (fun S59 h => ?_)
      exact q_X2_setGame_163 C D hK8 _ _ h
set_option maxHeartbeats 4000000 in
set_option maxRecDepth 100000 in
theorem q_X2_setGame_8 {X : vX} {G : vG}  {post : vSt → Prop} (C : v_Cx X G cX2_setGame RX2 5 (v_rm 3 105)) (D : v_Rx X G (v_Qv G post) none)  {a1 : Int32} {a2 : Int32} {a3 : Int32}   : ∀ (fu : Nat) (S : vSt) (x4 : Int32), p_X2_setGame_8 a1 a2 a3 post fu S x4 → VJ X G S 8 [(0, .ref (G.1 68)), (1, .int a1), (2, .int a2), (4, .int x4)] [] := by
  intro fu
  induction fu with
  | zero => intro S x4 h; exact absurd h id
  | succ fu ih =>
    intro S x4 h
    have hK8 := ih
    rw [e_X2_setGame_8] at h
    refine V_iload C 3 dX2_setGame_8 rfl ?_
    refine V_aload_n C 0 dX2_setGame_10 rfl rfl ?_
    refine V_ga C 68 (by decide) (by decide) F_2_0 k_RX2_22 dX2_setGame_11 ?_
    refine V_gi C 10 (by decide) (by decide) F_0_16 k_RX2_34 dX2_setGame_14 ?_
    refine V_icmp_ge (tgt := 169) C dX2_setGame_17 (by decide) (fun c => ?_) (fun c => ?_)
    · have h := h.1 c
      exact V_vret C D dX2_setGame_169 h
    · have h := h.2 c
      refine V_aload_n C 0 dX2_setGame_20 rfl rfl ?_
      refine V_ga C 68 (by decide) (by decide) F_2_2 k_RX2_9 dX2_setGame_21 ?_
      refine V_iload C 3 dX2_setGame_24 rfl ?_
      refine V_iconst (v := 0) C dX2_setGame_26 (by decide) ?_
      refine V_callSNv (As := [.ref (G.1 69), .int x4, .int 0]) (rest := []) C (c_X10_put (v_l X) G (by decide) (by decide) _ _ _ h) KV_X10_put (List.mem_of_getElem? (i := 14) rfl) rfl rfl rfl (Nat.le_of_ble_eq_true rfl) ⟨Nat.le_of_ble_eq_true rfl, Nat.le_of_ble_eq_true rfl⟩ dX2_setGame_27 (fun S47 h => ?_)
      refine V_aload_n C 0 dX2_setGame_30 rfl rfl ?_
      refine V_ga C 68 (by decide) (by decide) F_2_0 k_RX2_22 dX2_setGame_31 ?_
      refine V_iload_n C 2 dX2_setGame_34 rfl rfl ?_
      refine V_iload C 3 dX2_setGame_35 rfl ?_
      refine V_callVz (As := [.int a2, .int x4]) (rest := []) C (c_X0_isOwn (v_l X) G v_i10 _ _ _ h) 10 0 (by decide) (by decide) (by decide) rfl KV_X0_isOwn k_RX2_43 rfl rfl rfl (Nat.le_of_ble_eq_true rfl) ⟨Nat.le_of_ble_eq_true rfl, Nat.le_of_ble_eq_true rfl⟩ dX2_setGame_37 (fun r49 S48 h => ?_)
      refine V_ifb_eq (tgt := 96) C dX2_setGame_40 (by decide) (fun c => ?_) (fun c => ?_)
      · have h := h.1 c
        exact q_X2_setGame_96 C D hK8 _ _ h
      · have h := h.2 c
        refine V_aload_n C 0 dX2_setGame_43 rfl rfl ?_
        refine V_ga C 68 (by decide) (by decide) F_2_0 k_RX2_22 dX2_setGame_44 ?_
        refine V_iload_n C 1 dX2_setGame_47 rfl rfl ?_
        refine V_iload C 3 dX2_setGame_48 rfl ?_
        refine V_callVz (As := [.int a1, .int x4]) (rest := []) C (c_X0_mayCharge (v_l X) G v_i10 _ _ _ h) 10 0 (by decide) (by decide) (by decide) rfl KV_X0_mayCharge k_RX2_47 rfl rfl rfl (Nat.le_of_ble_eq_true rfl) ⟨Nat.le_of_ble_eq_true rfl, Nat.le_of_ble_eq_true rfl⟩ dX2_setGame_50 (fun r51 S50 h => ?_)
        refine V_ifb_eq (tgt := 96) C dX2_setGame_53 (by decide) (fun c => ?_) (fun c => ?_)
        · have h := h.1 c
          exact q_X2_setGame_96 C D hK8 _ _ h
        · have h := h.2 c
          refine V_aload_n C 0 dX2_setGame_56 rfl rfl ?_
          refine V_ga C 68 (by decide) (by decide) F_2_2 k_RX2_9 dX2_setGame_57 ?_
          refine V_iload C 3 dX2_setGame_60 rfl ?_
          refine V_iconst (v := 1) C dX2_setGame_62 (by decide) ?_
          refine V_callSNv (As := [.ref (G.1 69), .int x4, .int 1]) (rest := []) C (c_X10_put (v_l X) G (by decide) (by decide) _ _ _ h) KV_X10_put (List.mem_of_getElem? (i := 14) rfl) rfl rfl rfl (Nat.le_of_ble_eq_true rfl) ⟨Nat.le_of_ble_eq_true rfl, Nat.le_of_ble_eq_true rfl⟩ dX2_setGame_63 (fun S52 h => ?_)
          refine V_aload_n C 0 dX2_setGame_66 rfl rfl ?_
          refine V_ga C 68 (by decide) (by decide) F_2_3 k_RX2_15 dX2_setGame_67 ?_
          refine V_iload C 3 dX2_setGame_70 rfl ?_
          refine V_aload_n C 0 dX2_setGame_72 rfl rfl ?_
          refine V_ga C 68 (by decide) (by decide) F_2_1 k_RX2_26 dX2_setGame_73 ?_
          refine V_iload_n C 1 dX2_setGame_76 rfl rfl ?_
          refine V_iload C 3 dX2_setGame_77 rfl ?_
          refine V_callVl (As := [.int a1, .int x4]) (rest := [.int x4, .ref (G.1 70)]) C (c_X3_gainOf (v_l X) G  _ _ _ h) 58 3 (by decide) (by decide) (by decide) rfl KV_X3_gainOf k_RX2_50 rfl rfl rfl (Nat.le_of_ble_eq_true rfl) ⟨Nat.le_of_ble_eq_true rfl, Nat.le_of_ble_eq_true rfl⟩ dX2_setGame_79 (fun r54 S53 h => ?_)
          refine V_aload_n C 0 dX2_setGame_82 rfl rfl ?_
          refine V_ga C 68 (by decide) (by decide) F_2_1 k_RX2_26 dX2_setGame_83 ?_
          refine V_iload_n C 1 dX2_setGame_86 rfl rfl ?_
          refine V_iload C 3 dX2_setGame_87 rfl ?_
          refine V_callVl (As := [.int a1, .int x4]) (rest := [.long r54, .int x4, .ref (G.1 70)]) C (c_X3_lossOf (v_l X) G  _ _ _ h) 58 3 (by decide) (by decide) (by decide) rfl KV_X3_lossOf k_RX2_56 rfl rfl rfl (Nat.le_of_ble_eq_true rfl) ⟨Nat.le_of_ble_eq_true rfl, Nat.le_of_ble_eq_true rfl⟩ dX2_setGame_89 (fun r56 S55 h => ?_)
          refine V_ladd C dX2_setGame_92 ?_
          refine V_callSNv (As := [.ref (G.1 70), .int x4, .long (r54 + r56)]) (rest := []) C (c_X10_put_ (v_l X) G (by decide) (by decide) _ _ _ h) KV_X10_put_ (List.mem_of_getElem? (i := 15) rfl) rfl rfl rfl (Nat.le_of_ble_eq_true rfl) ⟨Nat.le_of_ble_eq_true rfl, Nat.le_of_ble_eq_true rfl⟩ dX2_setGame_93 (fun S57 h => ?_)
          exact q_X2_setGame_96 C D hK8 _ _ h
set_option maxHeartbeats 4000000 in
set_option maxRecDepth 100000 in
theorem c_X2_setGame (l : Launch) (G : vG)    {S : vSt} (a1 : Int32) (a2 : Int32) (a3 : Int32) (post : vSt → Prop) (h : p_X2_setGame   S a1 a2 a3 post) : Met l yX2_setGame (v_ws yX2_setGame cX2_setGame 5 none) (v_rm 3 105) (v_Pc G [.ref (G.1 68), .int a1, .int a2, .int a3] S) (v_Qv G post) 0 0 (v_A G) := by
  refine v_start (by decide +kernel) (Nat.le_of_ble_eq_true rfl) (fun X hl C D => ?_)
  subst hl
  have C : v_Cx X G cX2_setGame RX2 5 (v_rm 3 105) := C
  show VJ X G S 0 [(0, .ref (G.1 68)), (1, .int a1), (2, .int a2), (3, .int a3)] []
  refine V_aload_n C 0 dX2_setGame_0 rfl rfl ?_
  refine V_iload_n C 3 dX2_setGame_1 rfl rfl ?_
  refine V_pi C 68 (by decide) (by decide) P_2_5 k_RX2_30 dX2_setGame_2 ?_
  refine V_topS (fun S46 eS46 => ?_)
  have h := h S46 eS46
  refine V_iconst (v := 0) C dX2_setGame_5 (by decide) ?_
  refine V_istore (lv' := [(0, .ref (G.1 68)), (1, .int a1), (2, .int a2), (3, .int a3), (4, .int 0)]) C [1, 2, 3, 4, 0] dX2_setGame_6 (by decide) rfl ?_
  refine V_loc (lv' := [(0, .ref (G.1 68)), (1, .int a1), (2, .int a2), (4, .int 0)]) [0, 1, 2, 4] rfl ?_
  obtain ⟨fu8, h⟩ := h
  exact q_X2_setGame_8 C D  fu8 _ _ h
/-! HalfAccuser$Games.play(LHalfAccuser$Games;II)J -/
theorem dX2_play_0 : decode cX2_play 0 = .ok ((.iload_n 1), 1) := by decide +kernel
theorem dX2_play_1 : decode cX2_play 1 = .ok ((.aload_n 0), 1) := by decide +kernel
theorem dX2_play_2 : decode cX2_play 2 = .ok ((.getfield 30), 3) := by decide +kernel
theorem dX2_play_5 : decode cX2_play 5 = .ok ((.if_icmp .ge 8), 3) := by decide +kernel
theorem dX2_play_8 : decode cX2_play 8 = .ok ((.iload_n 1), 1) := by decide +kernel
theorem dX2_play_9 : decode cX2_play 9 = .ok ((.iconst 3), 1) := by decide +kernel
theorem dX2_play_10 : decode cX2_play 10 = .ok ((.if_icmp .lt 5), 3) := by decide +kernel
theorem dX2_play_13 : decode cX2_play 13 = .ok ((.lconst 0), 1) := by decide +kernel
theorem dX2_play_14 : decode cX2_play 14 = .ok (.lreturn, 1) := by decide +kernel
theorem dX2_play_15 : decode cX2_play 15 = .ok ((.iload_n 1), 1) := by decide +kernel
theorem dX2_play_16 : decode cX2_play 16 = .ok ((.iconst 2), 1) := by decide +kernel
theorem dX2_play_17 : decode cX2_play 17 = .ok (.irem, 1) := by decide +kernel
theorem dX2_play_18 : decode cX2_play 18 = .ok ((.ifCond .ne 7), 3) := by decide +kernel
theorem dX2_play_21 : decode cX2_play 21 = .ok ((.iconst 1), 1) := by decide +kernel
theorem dX2_play_22 : decode cX2_play 22 = .ok ((.goto 4), 3) := by decide +kernel
theorem dX2_play_25 : decode cX2_play 25 = .ok ((.iconst 0), 1) := by decide +kernel
theorem dX2_play_26 : decode cX2_play 26 = .ok ((.istore_n 3), 1) := by decide +kernel
theorem dX2_play_27 : decode cX2_play 27 = .ok ((.aload_n 0), 1) := by decide +kernel
theorem dX2_play_28 : decode cX2_play 28 = .ok ((.iload_n 1), 1) := by decide +kernel
theorem dX2_play_29 : decode cX2_play 29 = .ok ((.iconst 1), 1) := by decide +kernel
theorem dX2_play_30 : decode cX2_play 30 = .ok (.iadd, 1) := by decide +kernel
theorem dX2_play_31 : decode cX2_play 31 = .ok ((.iload_n 2), 1) := by decide +kernel
theorem dX2_play_32 : decode cX2_play 32 = .ok ((.invokestatic 62), 3) := by decide +kernel
theorem dX2_play_35 : decode cX2_play 35 = .ok ((.lstore 4), 2) := by decide +kernel
theorem dX2_play_37 : decode cX2_play 37 = .ok ((.iconst 0), 1) := by decide +kernel
theorem dX2_play_38 : decode cX2_play 38 = .ok ((.istore 6), 2) := by decide +kernel
theorem dX2_play_40 : decode cX2_play 40 = .ok ((.iload 6), 2) := by decide +kernel
theorem dX2_play_42 : decode cX2_play 42 = .ok ((.aload_n 0), 1) := by decide +kernel
theorem dX2_play_43 : decode cX2_play 43 = .ok ((.getfield 22), 3) := by decide +kernel
theorem dX2_play_46 : decode cX2_play 46 = .ok ((.getfield 34), 3) := by decide +kernel
theorem dX2_play_49 : decode cX2_play 49 = .ok ((.if_icmp .ge 87), 3) := by decide +kernel
theorem dX2_play_52 : decode cX2_play 52 = .ok ((.aload_n 0), 1) := by decide +kernel
theorem dX2_play_53 : decode cX2_play 53 = .ok ((.getfield 9), 3) := by decide +kernel
theorem dX2_play_56 : decode cX2_play 56 = .ok ((.iload 6), 2) := by decide +kernel
theorem dX2_play_58 : decode cX2_play 58 = .ok ((.invokestatic 66), 3) := by decide +kernel
theorem dX2_play_61 : decode cX2_play 61 = .ok ((.iload_n 3), 1) := by decide +kernel
theorem dX2_play_62 : decode cX2_play 62 = .ok ((.ifCond .eq 7), 3) := by decide +kernel
theorem dX2_play_65 : decode cX2_play 65 = .ok ((.iconst 1), 1) := by decide +kernel
theorem dX2_play_66 : decode cX2_play 66 = .ok ((.goto 4), 3) := by decide +kernel
theorem dX2_play_69 : decode cX2_play 69 = .ok ((.iconst 2), 1) := by decide +kernel
theorem dX2_play_70 : decode cX2_play 70 = .ok ((.if_icmp .ne 60), 3) := by decide +kernel
theorem dX2_play_73 : decode cX2_play 73 = .ok ((.iload_n 2), 1) := by decide +kernel
theorem dX2_play_74 : decode cX2_play 74 = .ok ((.iload 6), 2) := by decide +kernel
theorem dX2_play_76 : decode cX2_play 76 = .ok ((.invokestatic 70), 3) := by decide +kernel
theorem dX2_play_79 : decode cX2_play 79 = .ok ((.ifCond .ne 51), 3) := by decide +kernel
theorem dX2_play_82 : decode cX2_play 82 = .ok ((.aload_n 0), 1) := by decide +kernel
theorem dX2_play_83 : decode cX2_play 83 = .ok ((.getfield 15), 3) := by decide +kernel
theorem dX2_play_86 : decode cX2_play 86 = .ok ((.iload 6), 2) := by decide +kernel
theorem dX2_play_88 : decode cX2_play 88 = .ok ((.invokestatic 73), 3) := by decide +kernel
theorem dX2_play_91 : decode cX2_play 91 = .ok ((.aload_n 0), 1) := by decide +kernel
theorem dX2_play_92 : decode cX2_play 92 = .ok ((.iload_n 1), 1) := by decide +kernel
theorem dX2_play_93 : decode cX2_play 93 = .ok ((.iconst 1), 1) := by decide +kernel
theorem dX2_play_94 : decode cX2_play 94 = .ok (.iadd, 1) := by decide +kernel
theorem dX2_play_95 : decode cX2_play 95 = .ok ((.iload_n 2), 1) := by decide +kernel
theorem dX2_play_96 : decode cX2_play 96 = .ok ((.iconst 1), 1) := by decide +kernel
theorem dX2_play_97 : decode cX2_play 97 = .ok ((.iload 6), 2) := by decide +kernel
theorem dX2_play_99 : decode cX2_play 99 = .ok (.ishl, 1) := by decide +kernel
theorem dX2_play_100 : decode cX2_play 100 = .ok (.ior, 1) := by decide +kernel
theorem dX2_play_101 : decode cX2_play 101 = .ok ((.invokestatic 62), 3) := by decide +kernel
theorem dX2_play_104 : decode cX2_play 104 = .ok (.ladd, 1) := by decide +kernel
theorem dX2_play_105 : decode cX2_play 105 = .ok ((.lstore 7), 2) := by decide +kernel
theorem dX2_play_107 : decode cX2_play 107 = .ok ((.iload_n 3), 1) := by decide +kernel
theorem dX2_play_108 : decode cX2_play 108 = .ok ((.ifCond .eq 13), 3) := by decide +kernel
theorem dX2_play_111 : decode cX2_play 111 = .ok ((.lload 4), 2) := by decide +kernel
theorem dX2_play_113 : decode cX2_play 113 = .ok ((.lload 7), 2) := by decide +kernel
theorem dX2_play_115 : decode cX2_play 115 = .ok ((.invokestatic 76), 3) := by decide +kernel
theorem dX2_play_118 : decode cX2_play 118 = .ok ((.goto 10), 3) := by decide +kernel
theorem dX2_play_121 : decode cX2_play 121 = .ok ((.lload 4), 2) := by decide +kernel
theorem dX2_play_123 : decode cX2_play 123 = .ok ((.lload 7), 2) := by decide +kernel
theorem dX2_play_125 : decode cX2_play 125 = .ok ((.invokestatic 82), 3) := by decide +kernel
theorem dX2_play_128 : decode cX2_play 128 = .ok ((.lstore 4), 2) := by decide +kernel
theorem dX2_play_130 : decode cX2_play 130 = .ok ((.iinc 6 1), 3) := by decide +kernel
theorem dX2_play_133 : decode cX2_play 133 = .ok ((.goto (-93)), 3) := by decide +kernel
theorem dX2_play_136 : decode cX2_play 136 = .ok ((.lload 4), 2) := by decide +kernel
theorem dX2_play_138 : decode cX2_play 138 = .ok (.lreturn, 1) := by decide +kernel
def p_X2_play_130  (a1 : Int32) (a2 : Int32) (rc : vSt → Int32 → Int32 → (Int64 → vSt → Prop) → Prop) (K40 : vSt → Bool → Int64 → Int32 → Prop) (post : Int64 → vSt → Prop) (S : vSt) (x3 : Bool) (x4 : Int64) (x6 : Int32) : Prop := ∀ y27 : Int32, y27 = x6 + 1 → K40 S x3 x4 y27
def p_X2_play_128  (a1 : Int32) (a2 : Int32) (rc : vSt → Int32 → Int32 → (Int64 → vSt → Prop) → Prop) (K40 : vSt → Bool → Int64 → Int32 → Prop) (post : Int64 → vSt → Prop) (S : vSt) (x3 : Bool) (x6 : Int32) (s0 : Int64) : Prop := p_X2_play_130 a1 a2 rc K40 post S x3 s0 x6
def p_X2_play_70  (a1 : Int32) (a2 : Int32) (rc : vSt → Int32 → Int32 → (Int64 → vSt → Prop) → Prop) (K40 : vSt → Bool → Int64 → Int32 → Prop) (post : Int64 → vSt → Prop) (S : vSt) (x3 : Bool) (x4 : Int64) (x6 : Int32) (s0 : Int32) (s1 : Int32) : Prop := ((¬ s1 = s0 → p_X2_play_130 a1 a2 rc K40 post S x3 x4 x6) ∧ (s1 = s0 → p_X10_isIn  S a2 x6 (fun r28 S27 => ((r28 = true → p_X2_play_130 a1 a2 rc K40 post S27 x3 x4 x6) ∧ (r28 = false → p_X10_at_ 70 10 S27 x6 (fun r30 S29 => rc S29 (a1 + 1) (a2 ||| ((1 : Int32) <<< (x6 &&& 31))) (fun r32 S31 => ∀ y33 : Int64, y33 = (r30 + r32) → ((x3 = false → p_X2_play_128 a1 a2 rc K40 post S31 x3 x6 (v_minl x4 y33)) ∧ (x3 = true → p_X2_play_128 a1 a2 rc K40 post S31 x3 x6 (v_maxl x4 y33))))))))))
def p_X2_play_40  (a1 : Int32) (a2 : Int32) (rc : vSt → Int32 → Int32 → (Int64 → vSt → Prop) → Prop)  (post : Int64 → vSt → Prop) : Nat → vSt → Bool → Int64 → Int32 → Prop
  | 0 => fun _ _ _ _ => False
  | fu40 + 1 => fun S x3 x4 x6 => (((S.1 10 16) ≤ x6 → post x4 S) ∧ (¬ (S.1 10 16) ≤ x6 → p_X10_at 69 10 S x6 (fun r26 S25 => ((x3 = false → p_X2_play_70 a1 a2 rc (p_X2_play_40 a1 a2 rc post fu40) post S25 x3 x4 x6 2 r26) ∧ (x3 = true → p_X2_play_70 a1 a2 rc (p_X2_play_40 a1 a2 rc post fu40) post S25 x3 x4 x6 1 r26)))))
theorem e_X2_play_40  (a1 : Int32) (a2 : Int32) (rc : vSt → Int32 → Int32 → (Int64 → vSt → Prop) → Prop)  (post : Int64 → vSt → Prop) (fu40 : Nat) (S : vSt) (x3 : Bool) (x4 : Int64) (x6 : Int32) : p_X2_play_40 a1 a2 rc post (fu40 + 1) S x3 x4 x6 = ((((S.1 10 16) ≤ x6 → post x4 S) ∧ (¬ (S.1 10 16) ≤ x6 → p_X10_at 69 10 S x6 (fun r26 S25 => ((x3 = false → p_X2_play_70 a1 a2 rc (p_X2_play_40 a1 a2 rc post fu40) post S25 x3 x4 x6 2 r26) ∧ (x3 = true → p_X2_play_70 a1 a2 rc (p_X2_play_40 a1 a2 rc post fu40) post S25 x3 x4 x6 1 r26)))))) := rfl
def p_X2_play_26  (a1 : Int32) (a2 : Int32) (rc : vSt → Int32 → Int32 → (Int64 → vSt → Prop) → Prop)  (post : Int64 → vSt → Prop) (S : vSt) (s0 : Bool) : Prop := rc S (a1 + 1) a2 (fun r24 S23 => ∃ fu40, p_X2_play_40 a1 a2 rc post fu40 S23 s0 r24 0)
def pb_X2_play  (rc : vSt → Int32 → Int32 → (Int64 → vSt → Prop) → Prop) (S : vSt) (a1 : Int32) (a2 : Int32) (post : Int64 → vSt → Prop) : Prop := (((S.1 68 5) ≤ a1 → post 0 S) ∧ (¬ (S.1 68 5) ≤ a1 → ((a1 < 3 → ((¬ (a1 - a1 / 2 * 2) = 0 → p_X2_play_26 a1 a2 rc post S false) ∧ ((a1 - a1 / 2 * 2) = 0 → p_X2_play_26 a1 a2 rc post S true))) ∧ (¬ a1 < 3 → post 0 S))))
set_option maxHeartbeats 4000000 in
set_option maxRecDepth 100000 in
theorem q_X2_play_130 {X : vX} {G : vG} {f0 l0 : Nat} {post : Int64 → vSt → Prop} (C : v_Cx X G cX2_play RX2 9 (v_rm (f0 + 1) (l0 + 61))) (D : v_Rx X G (v_Ql G post) (some .long))  {a1 : Int32} {a2 : Int32} {rc : vSt → Int32 → Int32 → (Int64 → vSt → Prop) → Prop} (hrc : ∀ (S : vSt) (a1 : Int32) (a2 : Int32) (post : Int64 → vSt → Prop), rc S a1 a2 post → Met (v_l X) yX2_play (v_ws yX2_play cX2_play 9 (some .long)) (v_rm f0 l0) (v_Pc G [.ref (G.1 68), .int a1, .int a2] S) (v_Ql G post) 0 0 (v_A G)) {K40 : vSt → Bool → Int64 → Int32 → Prop} (hK40 : ∀ S x3 x4 x6, K40 S x3 x4 x6 → VJ X G S 40 [(0, .ref (G.1 68)), (1, .int a1), (2, .int a2), (3, .int (v_b x3)), (4, .long x4), (6, .int x6)] []) : ∀ (S : vSt) (x3 : Bool) (x4 : Int64) (x6 : Int32), p_X2_play_130 a1 a2 rc K40 post S x3 x4 x6 → VJ X G S 130 [(0, .ref (G.1 68)), (1, .int a1), (2, .int a2), (3, .int (v_b x3)), (4, .long x4), (6, .int x6)] [] := by
  intro S x3 x4 x6 h
  obtain ⟨y27, ey27⟩ : ∃ z : Int32, z = x6 + 1 := ⟨_, rfl⟩
  have h := h y27 ey27
  refine V_iinc (lv' := [(0, .ref (G.1 68)), (1, .int a1), (2, .int a2), (3, .int (v_b x3)), (4, .long x4), (6, .int y27)]) C 5 [1, 2, 3, 4, 5, 0] y27 dX2_play_130 rfl (by rw [ey27]; rfl) (by decide) rfl ?_
  refine V_goto (tgt := 40) C dX2_play_133 (by decide) ?_
  exact hK40 _ _ _ _ h
set_option maxHeartbeats 4000000 in
set_option maxRecDepth 100000 in
theorem q_X2_play_128 {X : vX} {G : vG} {f0 l0 : Nat} {post : Int64 → vSt → Prop} (C : v_Cx X G cX2_play RX2 9 (v_rm (f0 + 1) (l0 + 61))) (D : v_Rx X G (v_Ql G post) (some .long))  {a1 : Int32} {a2 : Int32} {rc : vSt → Int32 → Int32 → (Int64 → vSt → Prop) → Prop} (hrc : ∀ (S : vSt) (a1 : Int32) (a2 : Int32) (post : Int64 → vSt → Prop), rc S a1 a2 post → Met (v_l X) yX2_play (v_ws yX2_play cX2_play 9 (some .long)) (v_rm f0 l0) (v_Pc G [.ref (G.1 68), .int a1, .int a2] S) (v_Ql G post) 0 0 (v_A G)) {K40 : vSt → Bool → Int64 → Int32 → Prop} (hK40 : ∀ S x3 x4 x6, K40 S x3 x4 x6 → VJ X G S 40 [(0, .ref (G.1 68)), (1, .int a1), (2, .int a2), (3, .int (v_b x3)), (4, .long x4), (6, .int x6)] []) : ∀ (S : vSt) (x3 : Bool) (x6 : Int32) (s0 : Int64), p_X2_play_128 a1 a2 rc K40 post S x3 x6 s0 → VJ X G S 128 [(0, .ref (G.1 68)), (1, .int a1), (2, .int a2), (3, .int (v_b x3)), (6, .int x6)] [.long s0] := by
  intro S x3 x6 s0 h
  refine V_lstore (lv' := [(0, .ref (G.1 68)), (1, .int a1), (2, .int a2), (3, .int (v_b x3)), (4, .long s0), (6, .int x6)]) C [1, 2, 3, 4, 0, 5] dX2_play_128 (by decide) rfl ?_
  exact q_X2_play_130 C D hrc hK40 _ _ _ _ h
set_option maxHeartbeats 4000000 in
set_option maxRecDepth 100000 in
theorem q_X2_play_70 {X : vX} {G : vG} {f0 l0 : Nat} {post : Int64 → vSt → Prop} (C : v_Cx X G cX2_play RX2 9 (v_rm (f0 + 1) (l0 + 61))) (D : v_Rx X G (v_Ql G post) (some .long))  {a1 : Int32} {a2 : Int32} {rc : vSt → Int32 → Int32 → (Int64 → vSt → Prop) → Prop} (hrc : ∀ (S : vSt) (a1 : Int32) (a2 : Int32) (post : Int64 → vSt → Prop), rc S a1 a2 post → Met (v_l X) yX2_play (v_ws yX2_play cX2_play 9 (some .long)) (v_rm f0 l0) (v_Pc G [.ref (G.1 68), .int a1, .int a2] S) (v_Ql G post) 0 0 (v_A G)) {K40 : vSt → Bool → Int64 → Int32 → Prop} (hK40 : ∀ S x3 x4 x6, K40 S x3 x4 x6 → VJ X G S 40 [(0, .ref (G.1 68)), (1, .int a1), (2, .int a2), (3, .int (v_b x3)), (4, .long x4), (6, .int x6)] []) : ∀ (S : vSt) (x3 : Bool) (x4 : Int64) (x6 : Int32) (s0 : Int32) (s1 : Int32), p_X2_play_70 a1 a2 rc K40 post S x3 x4 x6 s0 s1 → VJ X G S 70 [(0, .ref (G.1 68)), (1, .int a1), (2, .int a2), (3, .int (v_b x3)), (4, .long x4), (6, .int x6)] [.int s0, .int s1] := by
  intro S x3 x4 x6 s0 s1 h
  refine V_icmp_ne (tgt := 130) C dX2_play_70 (by decide) (fun c => ?_) (fun c => ?_)
  · have h := h.1 c
    exact q_X2_play_130 C D hrc hK40 _ _ _ _ h
  · have h := h.2 c
    refine V_iload_n C 2 dX2_play_73 rfl rfl ?_
    refine V_iload C 5 dX2_play_74 rfl ?_
    refine V_callSNz (As := [.int a2, .int x6]) (rest := []) C (c_X10_isIn (v_l X) G  _ _ _ h) KV_X10_isIn (List.mem_of_getElem? (i := 17) rfl) rfl rfl rfl (Nat.le_of_ble_eq_true rfl) ⟨by simp only [v_rm]; omega, by simp only [v_rm]; omega⟩ dX2_play_76 (fun r28 S27 h => ?_)
    refine V_ifb_ne (tgt := 130) C dX2_play_79 (by decide) (fun c => ?_) (fun c => ?_)
    · have h := h.1 c
      exact q_X2_play_130 C D hrc hK40 _ _ _ _ h
    · have h := h.2 c
      refine V_aload_n C 0 dX2_play_82 rfl rfl ?_
      refine V_ga C 68 (by decide) (by decide) F_2_3 k_RX2_15 dX2_play_83 ?_
      refine V_iload C 5 dX2_play_86 rfl ?_
      refine V_callSNl (As := [.ref (G.1 70), .int x6]) (rest := []) C (c_X10_at_ (v_l X) G (by decide) (by decide) _ _ h) KV_X10_at_ (List.mem_of_getElem? (i := 18) rfl) rfl rfl rfl (Nat.le_of_ble_eq_true rfl) ⟨by simp only [v_rm]; omega, by simp only [v_rm]; omega⟩ dX2_play_88 (fun r30 S29 h => ?_)
      refine V_aload_n C 0 dX2_play_91 rfl rfl ?_
      refine V_iload_n C 1 dX2_play_92 rfl rfl ?_
      refine V_iconst (v := 1) C dX2_play_93 (by decide) ?_
      refine V_iadd C dX2_play_94 ?_
      refine V_iload_n C 2 dX2_play_95 rfl rfl ?_
      refine V_iconst (v := 1) C dX2_play_96 (by decide) ?_
      refine V_iload C 5 dX2_play_97 rfl ?_
      refine V_ishl C dX2_play_99 ?_
      refine V_ior C dX2_play_100 ?_
      refine V_callSl (As := [.ref (G.1 68), .int (a1 + 1), .int (a2 ||| ((1 : Int32) <<< (x6 &&& 31)))]) (rest := [.long r30]) C (hrc _ _ _ _ h) KV_X2_play k_RX2_62 rfl rfl rfl (Nat.le_of_ble_eq_true rfl) ⟨by simp only [v_rm]; omega, by simp only [v_rm]; omega⟩ dX2_play_101 (fun r32 S31 h => ?_)
      refine V_ladd C dX2_play_104 ?_
      refine V_topl (fun y33 ey33 => ?_)
      have h := h y33 ey33
      refine V_lstore (lv' := [(0, .ref (G.1 68)), (1, .int a1), (2, .int a2), (3, .int (v_b x3)), (4, .long x4), (6, .int x6), (7, .long y33)]) C [1, 2, 3, 4, 5, 6, 0] dX2_play_105 (by decide) rfl ?_
      refine V_iload_n C 3 dX2_play_107 rfl rfl ?_
      refine V_ifb_eq (tgt := 121) C dX2_play_108 (by decide) (fun c => ?_) (fun c => ?_)
      · have h := h.1 c
        refine V_lload C 4 dX2_play_121 rfl ?_
        refine V_lload C 6 dX2_play_123 rfl ?_
        refine V_minl C k_RX2_82 (Nat.le_of_ble_eq_true rfl) ⟨by simp only [v_rm]; omega, by simp only [v_rm]; omega⟩ dX2_play_125 ?_
        refine V_loc (lv' := [(0, .ref (G.1 68)), (1, .int a1), (2, .int a2), (3, .int (v_b x3)), (6, .int x6)]) [0, 1, 2, 3, 5] rfl ?_
        exact q_X2_play_128 C D hrc hK40 _ _ _ _ h
      · have h := h.2 c
        refine V_lload C 4 dX2_play_111 rfl ?_
        refine V_lload C 6 dX2_play_113 rfl ?_
        refine V_maxl C k_RX2_76 (Nat.le_of_ble_eq_true rfl) ⟨by simp only [v_rm]; omega, by simp only [v_rm]; omega⟩ dX2_play_115 ?_
        refine V_goto (tgt := 128) C dX2_play_118 (by decide) ?_
        refine V_loc (lv' := [(0, .ref (G.1 68)), (1, .int a1), (2, .int a2), (3, .int (v_b x3)), (6, .int x6)]) [0, 1, 2, 3, 5] rfl ?_
        exact q_X2_play_128 C D hrc hK40 _ _ _ _ h
set_option maxHeartbeats 4000000 in
set_option maxRecDepth 100000 in
theorem q_X2_play_40 {X : vX} {G : vG} {f0 l0 : Nat} {post : Int64 → vSt → Prop} (C : v_Cx X G cX2_play RX2 9 (v_rm (f0 + 1) (l0 + 61))) (D : v_Rx X G (v_Ql G post) (some .long))  {a1 : Int32} {a2 : Int32} {rc : vSt → Int32 → Int32 → (Int64 → vSt → Prop) → Prop} (hrc : ∀ (S : vSt) (a1 : Int32) (a2 : Int32) (post : Int64 → vSt → Prop), rc S a1 a2 post → Met (v_l X) yX2_play (v_ws yX2_play cX2_play 9 (some .long)) (v_rm f0 l0) (v_Pc G [.ref (G.1 68), .int a1, .int a2] S) (v_Ql G post) 0 0 (v_A G))  : ∀ (fu : Nat) (S : vSt) (x3 : Bool) (x4 : Int64) (x6 : Int32), p_X2_play_40 a1 a2 rc post fu S x3 x4 x6 → VJ X G S 40 [(0, .ref (G.1 68)), (1, .int a1), (2, .int a2), (3, .int (v_b x3)), (4, .long x4), (6, .int x6)] [] := by
  intro fu
  induction fu with
  | zero => intro S x3 x4 x6 h; exact absurd h id
  | succ fu ih =>
    intro S x3 x4 x6 h
    have hK40 := ih
    rw [e_X2_play_40] at h
    refine V_iload C 5 dX2_play_40 rfl ?_
    refine V_aload_n C 0 dX2_play_42 rfl rfl ?_
    refine V_ga C 68 (by decide) (by decide) F_2_0 k_RX2_22 dX2_play_43 ?_
    refine V_gi C 10 (by decide) (by decide) F_0_16 k_RX2_34 dX2_play_46 ?_
    refine V_icmp_ge (tgt := 136) C dX2_play_49 (by decide) (fun c => ?_) (fun c => ?_)
    · have h := h.1 c
      refine V_lload C 4 dX2_play_136 rfl ?_
      exact V_lret C D dX2_play_138 h
    · have h := h.2 c
      refine V_aload_n C 0 dX2_play_52 rfl rfl ?_
      refine V_ga C 68 (by decide) (by decide) F_2_2 k_RX2_9 dX2_play_53 ?_
      refine V_iload C 5 dX2_play_56 rfl ?_
      refine V_callSNi (As := [.ref (G.1 69), .int x6]) (rest := []) C (c_X10_at (v_l X) G (by decide) (by decide) _ _ h) KV_X10_at (List.mem_of_getElem? (i := 16) rfl) rfl rfl rfl (Nat.le_of_ble_eq_true rfl) ⟨by simp only [v_rm]; omega, by simp only [v_rm]; omega⟩ dX2_play_58 (fun r26 S25 h => ?_)
      refine V_iload_n C 3 dX2_play_61 rfl rfl ?_
      refine V_ifb_eq (tgt := 69) C dX2_play_62 (by decide) (fun c => ?_) (fun c => ?_)
      · have h := h.1 c
        refine V_iconst (v := 2) C dX2_play_69 (by decide) ?_
        exact q_X2_play_70 C D hrc hK40 _ _ _ _ _ _ h
      · have h := h.2 c
        refine V_iconst (v := 1) C dX2_play_65 (by decide) ?_
        refine V_goto (tgt := 70) C dX2_play_66 (by decide) ?_
        exact q_X2_play_70 C D hrc hK40 _ _ _ _ _ _ h
set_option maxHeartbeats 4000000 in
set_option maxRecDepth 100000 in
theorem q_X2_play_26 {X : vX} {G : vG} {f0 l0 : Nat} {post : Int64 → vSt → Prop} (C : v_Cx X G cX2_play RX2 9 (v_rm (f0 + 1) (l0 + 61))) (D : v_Rx X G (v_Ql G post) (some .long))  {a1 : Int32} {a2 : Int32} {rc : vSt → Int32 → Int32 → (Int64 → vSt → Prop) → Prop} (hrc : ∀ (S : vSt) (a1 : Int32) (a2 : Int32) (post : Int64 → vSt → Prop), rc S a1 a2 post → Met (v_l X) yX2_play (v_ws yX2_play cX2_play 9 (some .long)) (v_rm f0 l0) (v_Pc G [.ref (G.1 68), .int a1, .int a2] S) (v_Ql G post) 0 0 (v_A G))  : ∀ (S : vSt) (s0 : Bool), p_X2_play_26 a1 a2 rc post S s0 → VJ X G S 26 [(0, .ref (G.1 68)), (1, .int a1), (2, .int a2)] [.int (v_b s0)] := by
  intro S s0 h
  refine V_istore_n (lv' := [(0, .ref (G.1 68)), (1, .int a1), (2, .int a2), (3, .int (v_b s0))]) C [1, 2, 3, 0] dX2_play_26 rfl (by decide) rfl ?_
  refine V_aload_n C 0 dX2_play_27 rfl rfl ?_
  refine V_iload_n C 1 dX2_play_28 rfl rfl ?_
  refine V_iconst (v := 1) C dX2_play_29 (by decide) ?_
  refine V_iadd C dX2_play_30 ?_
  refine V_iload_n C 2 dX2_play_31 rfl rfl ?_
  refine V_callSl (As := [.ref (G.1 68), .int (a1 + 1), .int a2]) (rest := []) C (hrc _ _ _ _ h) KV_X2_play k_RX2_62 rfl rfl rfl (Nat.le_of_ble_eq_true rfl) ⟨by simp only [v_rm]; omega, by simp only [v_rm]; omega⟩ dX2_play_32 (fun r24 S23 h => ?_)
  refine V_lstore (lv' := [(0, .ref (G.1 68)), (1, .int a1), (2, .int a2), (3, .int (v_b s0)), (4, .long r24)]) C [1, 2, 3, 4, 0] dX2_play_35 (by decide) rfl ?_
  refine V_iconst (v := 0) C dX2_play_37 (by decide) ?_
  refine V_istore (lv' := [(0, .ref (G.1 68)), (1, .int a1), (2, .int a2), (3, .int (v_b s0)), (4, .long r24), (6, .int 0)]) C [1, 2, 3, 4, 5, 0] dX2_play_38 (by decide) rfl ?_
  obtain ⟨fu40, h⟩ := h
  exact q_X2_play_40 C D hrc fu40 _ _ _ _ h
set_option maxHeartbeats 4000000 in
set_option maxRecDepth 100000 in
theorem co_X2_play (l : Launch) (G : vG) {f0 l0 : Nat}  {rc : vSt → Int32 → Int32 → (Int64 → vSt → Prop) → Prop} (hrc : ∀ (S : vSt) (a1 : Int32) (a2 : Int32) (post : Int64 → vSt → Prop), rc S a1 a2 post → Met l yX2_play (v_ws yX2_play cX2_play 9 (some .long)) (v_rm f0 l0) (v_Pc G [.ref (G.1 68), .int a1, .int a2] S) (v_Ql G post) 0 0 (v_A G)) {S : vSt} (a1 : Int32) (a2 : Int32) (post : Int64 → vSt → Prop) (h : pb_X2_play  rc S a1 a2 post) : Met l yX2_play (v_ws yX2_play cX2_play 9 (some .long)) (v_rm (f0 + 1) (l0 + 61)) (v_Pc G [.ref (G.1 68), .int a1, .int a2] S) (v_Ql G post) 0 0 (v_A G) := by
  refine v_start (by decide +kernel) (Nat.le_of_ble_eq_true rfl) (fun X hl C D => ?_)
  subst hl
  have C : v_Cx X G cX2_play RX2 9 (v_rm (f0 + 1) (l0 + 61)) := C
  show VJ X G S 0 [(0, .ref (G.1 68)), (1, .int a1), (2, .int a2)] []
  refine V_iload_n C 1 dX2_play_0 rfl rfl ?_
  refine V_aload_n C 0 dX2_play_1 rfl rfl ?_
  refine V_gi C 68 (by decide) (by decide) F_2_5 k_RX2_30 dX2_play_2 ?_
  refine V_icmp_ge (tgt := 13) C dX2_play_5 (by decide) (fun c => ?_) (fun c => ?_)
  · have h := h.1 c
    refine V_lconst (v := 0) C dX2_play_13 (by decide) ?_
    exact V_lret C D dX2_play_14 h
  · have h := h.2 c
    refine V_iload_n C 1 dX2_play_8 rfl rfl ?_
    refine V_iconst (v := 3) C dX2_play_9 (by decide) ?_
    refine V_icmp_lt (tgt := 15) C dX2_play_10 (by decide) (fun c => ?_) (fun c => ?_)
    · have h := h.1 c
      refine V_iload_n C 1 dX2_play_15 rfl rfl ?_
      refine V_iconst (v := 2) C dX2_play_16 (by decide) ?_
      refine V_irem C dX2_play_17 (by decide) ?_
      refine V_if_ne (tgt := 25) C dX2_play_18 (by decide) (fun c => ?_) (fun c => ?_)
      · have h := h.1 c
        refine V_iconst (v := 0) C dX2_play_25 (by decide) ?_
        exact q_X2_play_26 C D hrc _ _ h
      · have h := h.2 c
        refine V_iconst (v := 1) C dX2_play_21 (by decide) ?_
        refine V_goto (tgt := 26) C dX2_play_22 (by decide) ?_
        exact q_X2_play_26 C D hrc _ _ h
    · have h := h.2 c
      refine V_lconst (v := 0) C dX2_play_13 (by decide) ?_
      exact V_lret C D dX2_play_14 h
def p_X2_play : Nat → vSt → Int32 → Int32 → (Int64 → vSt → Prop) → Prop
  | 0 => fun _ _ _ _ => False
  | d + 1 => fun S a1 a2 post => pb_X2_play (p_X2_play d) S a1 a2 post
theorem c_X2_play (d : Nat) : ∀ (l : Launch) (G : vG) {S : vSt} (a1 : Int32) (a2 : Int32) (post : Int64 → vSt → Prop) (h : p_X2_play d S a1 a2 post), Met l yX2_play (v_ws yX2_play cX2_play 9 (some .long)) (v_rm (1 * d) (61 * d)) (v_Pc G [.ref (G.1 68), .int a1, .int a2] S) (v_Ql G post) 0 0 (v_A G) := by
  induction d with
  | zero => intro l G S a1 a2 post h; exact absurd h id
  | succ d ih =>
    intro l G S a1 a2 post h
    exact co_X2_play l G (rc := p_X2_play d) (f0 := 1 * d) (l0 := 61 * d) (fun S a1 a2 post h => ih l G a1 a2 post h) a1 a2 post h
/-! HalfAccuser$Games.outcome()J -/
theorem dX2_outcome_0 : decode cX2_outcome 0 = .ok ((.aload_n 0), 1) := by decide +kernel
theorem dX2_outcome_1 : decode cX2_outcome 1 = .ok ((.iconst 0), 1) := by decide +kernel
theorem dX2_outcome_2 : decode cX2_outcome 2 = .ok ((.iconst 0), 1) := by decide +kernel
theorem dX2_outcome_3 : decode cX2_outcome 3 = .ok ((.invokestatic 62), 3) := by decide +kernel
theorem dX2_outcome_6 : decode cX2_outcome 6 = .ok (.lreturn, 1) := by decide +kernel
def p_X2_outcome   (S : vSt)  (post : Int64 → vSt → Prop) : Prop := p_X2_play 6 S 0 0 (fun r4 S3 => post r4 S3)
set_option maxHeartbeats 4000000 in
set_option maxRecDepth 100000 in
theorem c_X2_outcome (l : Launch) (G : vG)    {S : vSt}  (post : Int64 → vSt → Prop) (h : p_X2_outcome   S  post) : Met l yX2_outcome (v_ws yX2_outcome cX2_outcome 1 (some .long)) (v_rm 7 394) (v_Pc G [.ref (G.1 68)] S) (v_Ql G post) 0 0 (v_A G) := by
  refine v_start (by decide +kernel) (Nat.le_of_ble_eq_true rfl) (fun X hl C D => ?_)
  subst hl
  have C : v_Cx X G cX2_outcome RX2 1 (v_rm 7 394) := C
  show VJ X G S 0 [(0, .ref (G.1 68))] []
  refine V_aload_n C 0 dX2_outcome_0 rfl rfl ?_
  refine V_iconst (v := 0) C dX2_outcome_1 (by decide) ?_
  refine V_iconst (v := 0) C dX2_outcome_2 (by decide) ?_
  refine V_callSl (As := [.ref (G.1 68), .int 0, .int 0]) (rest := []) C (c_X2_play 6 (v_l X) G  _ _ _ h) KV_X2_play k_RX2_62 rfl rfl rfl (Nat.le_of_ble_eq_true rfl) ⟨Nat.le_of_ble_eq_true rfl, Nat.le_of_ble_eq_true rfl⟩ dX2_outcome_3 (fun r4 S3 h => ?_)
  exact V_lret C D dX2_outcome_6 h
/-! HalfAccuser$Games.firstMove()I -/
theorem dX2_firstMove_0 : decode cX2_firstMove 0 = .ok ((.aload_n 0), 1) := by decide +kernel
theorem dX2_firstMove_1 : decode cX2_firstMove 1 = .ok ((.invokevirtual 85), 3) := by decide +kernel
theorem dX2_firstMove_4 : decode cX2_firstMove 4 = .ok ((.lstore_n 1), 1) := by decide +kernel
theorem dX2_firstMove_5 : decode cX2_firstMove 5 = .ok ((.iconst 0), 1) := by decide +kernel
theorem dX2_firstMove_6 : decode cX2_firstMove 6 = .ok ((.istore_n 3), 1) := by decide +kernel
theorem dX2_firstMove_7 : decode cX2_firstMove 7 = .ok ((.iload_n 3), 1) := by decide +kernel
theorem dX2_firstMove_8 : decode cX2_firstMove 8 = .ok ((.aload_n 0), 1) := by decide +kernel
theorem dX2_firstMove_9 : decode cX2_firstMove 9 = .ok ((.getfield 22), 3) := by decide +kernel
theorem dX2_firstMove_12 : decode cX2_firstMove 12 = .ok ((.getfield 34), 3) := by decide +kernel
theorem dX2_firstMove_15 : decode cX2_firstMove 15 = .ok ((.if_icmp .ge 45), 3) := by decide +kernel
theorem dX2_firstMove_18 : decode cX2_firstMove 18 = .ok ((.aload_n 0), 1) := by decide +kernel
theorem dX2_firstMove_19 : decode cX2_firstMove 19 = .ok ((.getfield 9), 3) := by decide +kernel
theorem dX2_firstMove_22 : decode cX2_firstMove 22 = .ok ((.iload_n 3), 1) := by decide +kernel
theorem dX2_firstMove_23 : decode cX2_firstMove 23 = .ok ((.invokestatic 66), 3) := by decide +kernel
theorem dX2_firstMove_26 : decode cX2_firstMove 26 = .ok ((.iconst 1), 1) := by decide +kernel
theorem dX2_firstMove_27 : decode cX2_firstMove 27 = .ok ((.if_icmp .ne 27), 3) := by decide +kernel
theorem dX2_firstMove_30 : decode cX2_firstMove 30 = .ok ((.aload_n 0), 1) := by decide +kernel
theorem dX2_firstMove_31 : decode cX2_firstMove 31 = .ok ((.getfield 15), 3) := by decide +kernel
theorem dX2_firstMove_34 : decode cX2_firstMove 34 = .ok ((.iload_n 3), 1) := by decide +kernel
theorem dX2_firstMove_35 : decode cX2_firstMove 35 = .ok ((.invokestatic 73), 3) := by decide +kernel
theorem dX2_firstMove_38 : decode cX2_firstMove 38 = .ok ((.aload_n 0), 1) := by decide +kernel
theorem dX2_firstMove_39 : decode cX2_firstMove 39 = .ok ((.iconst 1), 1) := by decide +kernel
theorem dX2_firstMove_40 : decode cX2_firstMove 40 = .ok ((.iconst 1), 1) := by decide +kernel
theorem dX2_firstMove_41 : decode cX2_firstMove 41 = .ok ((.iload_n 3), 1) := by decide +kernel
theorem dX2_firstMove_42 : decode cX2_firstMove 42 = .ok (.ishl, 1) := by decide +kernel
theorem dX2_firstMove_43 : decode cX2_firstMove 43 = .ok ((.invokestatic 62), 3) := by decide +kernel
theorem dX2_firstMove_46 : decode cX2_firstMove 46 = .ok (.ladd, 1) := by decide +kernel
theorem dX2_firstMove_47 : decode cX2_firstMove 47 = .ok ((.lload_n 1), 1) := by decide +kernel
theorem dX2_firstMove_48 : decode cX2_firstMove 48 = .ok (.lcmp, 1) := by decide +kernel
theorem dX2_firstMove_49 : decode cX2_firstMove 49 = .ok ((.ifCond .ne 5), 3) := by decide +kernel
theorem dX2_firstMove_52 : decode cX2_firstMove 52 = .ok ((.iload_n 3), 1) := by decide +kernel
theorem dX2_firstMove_53 : decode cX2_firstMove 53 = .ok (.ireturn, 1) := by decide +kernel
theorem dX2_firstMove_54 : decode cX2_firstMove 54 = .ok ((.iinc 3 1), 3) := by decide +kernel
theorem dX2_firstMove_57 : decode cX2_firstMove 57 = .ok ((.goto (-50)), 3) := by decide +kernel
theorem dX2_firstMove_60 : decode cX2_firstMove 60 = .ok ((.iconst (-1)), 1) := by decide +kernel
theorem dX2_firstMove_61 : decode cX2_firstMove 61 = .ok (.ireturn, 1) := by decide +kernel
def p_X2_firstMove_54    (K7 : vSt → Int64 → Int32 → Prop) (post : Int32 → vSt → Prop) (S : vSt) (x1 : Int64) (x3 : Int32) : Prop := ∀ y21 : Int32, y21 = x3 + 1 → K7 S x1 y21
def p_X2_firstMove_7     (post : Int32 → vSt → Prop) : Nat → vSt → Int64 → Int32 → Prop
  | 0 => fun _ _ _ => False
  | fu7 + 1 => fun S x1 x3 => (((S.1 10 16) ≤ x3 → post (-1) S) ∧ (¬ (S.1 10 16) ≤ x3 → p_X10_at 69 10 S x3 (fun r20 S19 => ((¬ r20 = 1 → p_X2_firstMove_54 (p_X2_firstMove_7  post fu7) post S19 x1 x3) ∧ (r20 = 1 → p_X10_at_ 70 10 S19 x3 (fun r22 S21 => p_X2_play 6 S21 1 ((1 : Int32) <<< (x3 &&& 31)) (fun r24 S23 => ((¬ (r22 + r24) = x1 → p_X2_firstMove_54 (p_X2_firstMove_7  post fu7) post S23 x1 x3) ∧ ((r22 + r24) = x1 → post x3 S23)))))))))
theorem e_X2_firstMove_7     (post : Int32 → vSt → Prop) (fu7 : Nat) (S : vSt) (x1 : Int64) (x3 : Int32) : p_X2_firstMove_7  post (fu7 + 1) S x1 x3 = ((((S.1 10 16) ≤ x3 → post (-1) S) ∧ (¬ (S.1 10 16) ≤ x3 → p_X10_at 69 10 S x3 (fun r20 S19 => ((¬ r20 = 1 → p_X2_firstMove_54 (p_X2_firstMove_7  post fu7) post S19 x1 x3) ∧ (r20 = 1 → p_X10_at_ 70 10 S19 x3 (fun r22 S21 => p_X2_play 6 S21 1 ((1 : Int32) <<< (x3 &&& 31)) (fun r24 S23 => ((¬ (r22 + r24) = x1 → p_X2_firstMove_54 (p_X2_firstMove_7  post fu7) post S23 x1 x3) ∧ ((r22 + r24) = x1 → post x3 S23)))))))))) := rfl
def p_X2_firstMove   (S : vSt)  (post : Int32 → vSt → Prop) : Prop := p_X2_outcome  S  (fun r18 S17 => ∃ fu7, p_X2_firstMove_7  post fu7 S17 r18 0)
set_option maxHeartbeats 4000000 in
set_option maxRecDepth 100000 in
theorem q_X2_firstMove_54 {X : vX} {G : vG}  {post : Int32 → vSt → Prop} (C : v_Cx X G cX2_firstMove RX2 4 (v_rm 8 414)) (D : v_Rx X G (v_Qi G post) (some .int))    {K7 : vSt → Int64 → Int32 → Prop} (hK7 : ∀ S x1 x3, K7 S x1 x3 → VJ X G S 7 [(0, .ref (G.1 68)), (1, .long x1), (3, .int x3)] []) : ∀ (S : vSt) (x1 : Int64) (x3 : Int32), p_X2_firstMove_54 K7 post S x1 x3 → VJ X G S 54 [(0, .ref (G.1 68)), (1, .long x1), (3, .int x3)] [] := by
  intro S x1 x3 h
  obtain ⟨y21, ey21⟩ : ∃ z : Int32, z = x3 + 1 := ⟨_, rfl⟩
  have h := h y21 ey21
  refine V_iinc (lv' := [(0, .ref (G.1 68)), (1, .long x1), (3, .int y21)]) C 2 [1, 2, 0] y21 dX2_firstMove_54 rfl (by rw [ey21]; rfl) (by decide) rfl ?_
  refine V_goto (tgt := 7) C dX2_firstMove_57 (by decide) ?_
  exact hK7 _ _ _ h
set_option maxHeartbeats 4000000 in
set_option maxRecDepth 100000 in
theorem q_X2_firstMove_7 {X : vX} {G : vG}  {post : Int32 → vSt → Prop} (C : v_Cx X G cX2_firstMove RX2 4 (v_rm 8 414)) (D : v_Rx X G (v_Qi G post) (some .int))     : ∀ (fu : Nat) (S : vSt) (x1 : Int64) (x3 : Int32), p_X2_firstMove_7  post fu S x1 x3 → VJ X G S 7 [(0, .ref (G.1 68)), (1, .long x1), (3, .int x3)] [] := by
  intro fu
  induction fu with
  | zero => intro S x1 x3 h; exact absurd h id
  | succ fu ih =>
    intro S x1 x3 h
    have hK7 := ih
    rw [e_X2_firstMove_7] at h
    refine V_iload_n C 2 dX2_firstMove_7 rfl rfl ?_
    refine V_aload_n C 0 dX2_firstMove_8 rfl rfl ?_
    refine V_ga C 68 (by decide) (by decide) F_2_0 k_RX2_22 dX2_firstMove_9 ?_
    refine V_gi C 10 (by decide) (by decide) F_0_16 k_RX2_34 dX2_firstMove_12 ?_
    refine V_icmp_ge (tgt := 60) C dX2_firstMove_15 (by decide) (fun c => ?_) (fun c => ?_)
    · have h := h.1 c
      refine V_iconst (v := (-1)) C dX2_firstMove_60 (by decide) ?_
      exact V_iret C D dX2_firstMove_61 h
    · have h := h.2 c
      refine V_aload_n C 0 dX2_firstMove_18 rfl rfl ?_
      refine V_ga C 68 (by decide) (by decide) F_2_2 k_RX2_9 dX2_firstMove_19 ?_
      refine V_iload_n C 2 dX2_firstMove_22 rfl rfl ?_
      refine V_callSNi (As := [.ref (G.1 69), .int x3]) (rest := []) C (c_X10_at (v_l X) G (by decide) (by decide) _ _ h) KV_X10_at (List.mem_of_getElem? (i := 16) rfl) rfl rfl rfl (Nat.le_of_ble_eq_true rfl) ⟨Nat.le_of_ble_eq_true rfl, Nat.le_of_ble_eq_true rfl⟩ dX2_firstMove_23 (fun r20 S19 h => ?_)
      refine V_iconst (v := 1) C dX2_firstMove_26 (by decide) ?_
      refine V_icmp_ne (tgt := 54) C dX2_firstMove_27 (by decide) (fun c => ?_) (fun c => ?_)
      · have h := h.1 c
        exact q_X2_firstMove_54 C D hK7 _ _ _ h
      · have h := h.2 c
        refine V_aload_n C 0 dX2_firstMove_30 rfl rfl ?_
        refine V_ga C 68 (by decide) (by decide) F_2_3 k_RX2_15 dX2_firstMove_31 ?_
        refine V_iload_n C 2 dX2_firstMove_34 rfl rfl ?_
        refine V_callSNl (As := [.ref (G.1 70), .int x3]) (rest := []) C (c_X10_at_ (v_l X) G (by decide) (by decide) _ _ h) KV_X10_at_ (List.mem_of_getElem? (i := 18) rfl) rfl rfl rfl (Nat.le_of_ble_eq_true rfl) ⟨Nat.le_of_ble_eq_true rfl, Nat.le_of_ble_eq_true rfl⟩ dX2_firstMove_35 (fun r22 S21 h => ?_)
        refine V_aload_n C 0 dX2_firstMove_38 rfl rfl ?_
        refine V_iconst (v := 1) C dX2_firstMove_39 (by decide) ?_
        refine V_iconst (v := 1) C dX2_firstMove_40 (by decide) ?_
        refine V_iload_n C 2 dX2_firstMove_41 rfl rfl ?_
        refine V_ishl C dX2_firstMove_42 ?_
        refine V_callSl (As := [.ref (G.1 68), .int 1, .int ((1 : Int32) <<< (x3 &&& 31))]) (rest := [.long r22]) C (c_X2_play 6 (v_l X) G  _ _ _ h) KV_X2_play k_RX2_62 rfl rfl rfl (Nat.le_of_ble_eq_true rfl) ⟨Nat.le_of_ble_eq_true rfl, Nat.le_of_ble_eq_true rfl⟩ dX2_firstMove_43 (fun r24 S23 h => ?_)
        refine V_ladd C dX2_firstMove_46 ?_
        refine V_lload_n C 1 dX2_firstMove_47 rfl rfl ?_
        refine V_lcmp_ne (tgt := 54) C dX2_firstMove_48 dX2_firstMove_49 (by decide) (fun c => ?_) (fun c => ?_)
        · have h := h.1 c
          exact q_X2_firstMove_54 C D hK7 _ _ _ h
        · have h := h.2 c
          refine V_iload_n C 2 dX2_firstMove_52 rfl rfl ?_
          exact V_iret C D dX2_firstMove_53 h
set_option maxHeartbeats 4000000 in
set_option maxRecDepth 100000 in
theorem c_X2_firstMove (l : Launch) (G : vG)    {S : vSt}  (post : Int32 → vSt → Prop) (h : p_X2_firstMove   S  post) : Met l yX2_firstMove (v_ws yX2_firstMove cX2_firstMove 4 (some .int)) (v_rm 8 414) (v_Pc G [.ref (G.1 68)] S) (v_Qi G post) 0 0 (v_A G) := by
  refine v_start (by decide +kernel) (Nat.le_of_ble_eq_true rfl) (fun X hl C D => ?_)
  subst hl
  have C : v_Cx X G cX2_firstMove RX2 4 (v_rm 8 414) := C
  show VJ X G S 0 [(0, .ref (G.1 68))] []
  refine V_aload_n C 0 dX2_firstMove_0 rfl rfl ?_
  refine V_callVl (As := []) (rest := []) C (c_X2_outcome (v_l X) G  _ h) 68 2 (by decide) (by decide) (by decide) rfl KV_X2_outcome k_RX2_85 rfl rfl rfl (Nat.le_of_ble_eq_true rfl) ⟨Nat.le_of_ble_eq_true rfl, Nat.le_of_ble_eq_true rfl⟩ dX2_firstMove_1 (fun r18 S17 h => ?_)
  refine V_lstore_n (lv' := [(0, .ref (G.1 68)), (1, .long r18)]) C [1, 0] dX2_firstMove_4 rfl (by decide) rfl ?_
  refine V_iconst (v := 0) C dX2_firstMove_5 (by decide) ?_
  refine V_istore_n (lv' := [(0, .ref (G.1 68)), (1, .long r18), (3, .int 0)]) C [1, 2, 0] dX2_firstMove_6 rfl (by decide) rfl ?_
  obtain ⟨fu7, h⟩ := h
  exact q_X2_firstMove_7 C D  fu7 _ _ _ h
/-! HalfAccuser$Hopes.isWithin(II)Z -/
theorem dX3_isWithin_0 : decode cX3_isWithin 0 = .ok ((.aload_n 0), 1) := by decide +kernel
theorem dX3_isWithin_1 : decode cX3_isWithin 1 = .ok ((.getfield 33), 3) := by decide +kernel
theorem dX3_isWithin_4 : decode cX3_isWithin 4 = .ok ((.iload_n 1), 1) := by decide +kernel
theorem dX3_isWithin_5 : decode cX3_isWithin 5 = .ok ((.invokestatic 99), 3) := by decide +kernel
theorem dX3_isWithin_8 : decode cX3_isWithin 8 = .ok ((.iload_n 2), 1) := by decide +kernel
theorem dX3_isWithin_9 : decode cX3_isWithin 9 = .ok ((.invokestatic 109), 3) := by decide +kernel
theorem dX3_isWithin_12 : decode cX3_isWithin 12 = .ok (.ireturn, 1) := by decide +kernel
def p_X3_isWithin   (S : vSt) (a1 : Int32) (a2 : Int32) (post : Bool → vSt → Prop) : Prop := p_X10_at 66 8 S a1 (fun r6 S5 => p_X10_isIn  S5 r6 a2 (fun r8 S7 => post r8 S7))
set_option maxHeartbeats 4000000 in
set_option maxRecDepth 100000 in
theorem c_X3_isWithin (l : Launch) (G : vG)    {S : vSt} (a1 : Int32) (a2 : Int32) (post : Bool → vSt → Prop) (h : p_X3_isWithin   S a1 a2 post) : Met l yX3_isWithin (v_ws yX3_isWithin cX3_isWithin 3 (some .boolean)) (v_rm 1 61) (v_Pc G [.ref (G.1 58), .int a1, .int a2] S) (v_Qz G post) 0 0 (v_A G) := by
  refine v_start (by decide +kernel) (Nat.le_of_ble_eq_true rfl) (fun X hl C D => ?_)
  subst hl
  have C : v_Cx X G cX3_isWithin RX3 3 (v_rm 1 61) := C
  show VJ X G S 0 [(0, .ref (G.1 58)), (1, .int a1), (2, .int a2)] []
  refine V_aload_n C 0 dX3_isWithin_0 rfl rfl ?_
  refine V_ga C 58 (by decide) (by decide) F_3_8 k_RX3_33 dX3_isWithin_1 ?_
  refine V_iload_n C 1 dX3_isWithin_4 rfl rfl ?_
  refine V_callSNi (As := [.ref (G.1 66), .int a1]) (rest := []) C (c_X10_at (v_l X) G (by decide) (by decide) _ _ h) KV_X10_at (List.mem_of_getElem? (i := 12) rfl) rfl rfl rfl (Nat.le_of_ble_eq_true rfl) ⟨Nat.le_of_ble_eq_true rfl, Nat.le_of_ble_eq_true rfl⟩ dX3_isWithin_5 (fun r6 S5 h => ?_)
  refine V_iload_n C 2 dX3_isWithin_8 rfl rfl ?_
  refine V_callSNz (As := [.int r6, .int a2]) (rest := []) C (c_X10_isIn (v_l X) G  _ _ _ h) KV_X10_isIn (List.mem_of_getElem? (i := 13) rfl) rfl rfl rfl (Nat.le_of_ble_eq_true rfl) ⟨Nat.le_of_ble_eq_true rfl, Nat.le_of_ble_eq_true rfl⟩ dX3_isWithin_9 (fun r8 S7 h => ?_)
  exact V_zret C D dX3_isWithin_12 h
/-! HalfAccuser$Hopes.worstLoss(I)J -/
theorem dX3_worstLoss_0 : decode cX3_worstLoss 0 = .ok ((.lconst 0), 1) := by decide +kernel
theorem dX3_worstLoss_1 : decode cX3_worstLoss 1 = .ok ((.lstore_n 2), 1) := by decide +kernel
theorem dX3_worstLoss_2 : decode cX3_worstLoss 2 = .ok ((.iconst 0), 1) := by decide +kernel
theorem dX3_worstLoss_3 : decode cX3_worstLoss 3 = .ok ((.istore 4), 2) := by decide +kernel
theorem dX3_worstLoss_5 : decode cX3_worstLoss 5 = .ok ((.iload 4), 2) := by decide +kernel
theorem dX3_worstLoss_7 : decode cX3_worstLoss 7 = .ok ((.aload_n 0), 1) := by decide +kernel
theorem dX3_worstLoss_8 : decode cX3_worstLoss 8 = .ok ((.getfield 40), 3) := by decide +kernel
theorem dX3_worstLoss_11 : decode cX3_worstLoss 11 = .ok ((.getfield 75), 3) := by decide +kernel
theorem dX3_worstLoss_14 : decode cX3_worstLoss 14 = .ok ((.if_icmp .ge 43), 3) := by decide +kernel
theorem dX3_worstLoss_17 : decode cX3_worstLoss 17 = .ok ((.aload_n 0), 1) := by decide +kernel
theorem dX3_worstLoss_18 : decode cX3_worstLoss 18 = .ok ((.iload 4), 2) := by decide +kernel
theorem dX3_worstLoss_20 : decode cX3_worstLoss 20 = .ok ((.iload_n 1), 1) := by decide +kernel
theorem dX3_worstLoss_21 : decode cX3_worstLoss 21 = .ok ((.invokevirtual 112), 3) := by decide +kernel
theorem dX3_worstLoss_24 : decode cX3_worstLoss 24 = .ok ((.ifCond .eq 27), 3) := by decide +kernel
theorem dX3_worstLoss_27 : decode cX3_worstLoss 27 = .ok ((.aload_n 0), 1) := by decide +kernel
theorem dX3_worstLoss_28 : decode cX3_worstLoss 28 = .ok ((.iload 4), 2) := by decide +kernel
theorem dX3_worstLoss_30 : decode cX3_worstLoss 30 = .ok ((.iload_n 1), 1) := by decide +kernel
theorem dX3_worstLoss_31 : decode cX3_worstLoss 31 = .ok ((.invokevirtual 115), 3) := by decide +kernel
theorem dX3_worstLoss_34 : decode cX3_worstLoss 34 = .ok ((.lconst 0), 1) := by decide +kernel
theorem dX3_worstLoss_35 : decode cX3_worstLoss 35 = .ok (.lcmp, 1) := by decide +kernel
theorem dX3_worstLoss_36 : decode cX3_worstLoss 36 = .ok ((.ifCond .le 15), 3) := by decide +kernel
theorem dX3_worstLoss_39 : decode cX3_worstLoss 39 = .ok ((.lload_n 2), 1) := by decide +kernel
theorem dX3_worstLoss_40 : decode cX3_worstLoss 40 = .ok ((.aload_n 0), 1) := by decide +kernel
theorem dX3_worstLoss_41 : decode cX3_worstLoss 41 = .ok ((.iload 4), 2) := by decide +kernel
theorem dX3_worstLoss_43 : decode cX3_worstLoss 43 = .ok ((.iload_n 1), 1) := by decide +kernel
theorem dX3_worstLoss_44 : decode cX3_worstLoss 44 = .ok ((.invokevirtual 132), 3) := by decide +kernel
theorem dX3_worstLoss_47 : decode cX3_worstLoss 47 = .ok ((.invokestatic 119), 3) := by decide +kernel
theorem dX3_worstLoss_50 : decode cX3_worstLoss 50 = .ok ((.lstore_n 2), 1) := by decide +kernel
theorem dX3_worstLoss_51 : decode cX3_worstLoss 51 = .ok ((.iinc 4 1), 3) := by decide +kernel
theorem dX3_worstLoss_54 : decode cX3_worstLoss 54 = .ok ((.goto (-49)), 3) := by decide +kernel
theorem dX3_worstLoss_57 : decode cX3_worstLoss 57 = .ok ((.lload_n 2), 1) := by decide +kernel
theorem dX3_worstLoss_58 : decode cX3_worstLoss 58 = .ok (.lreturn, 1) := by decide +kernel
def p_X3_worstLoss_51  (a1 : Int32)  (K5 : vSt → Int64 → Int32 → Prop) (post : Int64 → vSt → Prop) (S : vSt) (x2 : Int64) (x4 : Int32) : Prop := ∀ y19 : Int32, y19 = x4 + 1 → K5 S x2 y19
def p_X3_worstLoss_5  (a1 : Int32)   (post : Int64 → vSt → Prop) : Nat → vSt → Int64 → Int32 → Prop
  | 0 => fun _ _ _ => False
  | fu5 + 1 => fun S x2 x4 => (((S.1 10 15) ≤ x4 → post x2 S) ∧ (¬ (S.1 10 15) ≤ x4 → p_X3_isWithin  S x4 a1 (fun r18 S17 => ((r18 = false → p_X3_worstLoss_51 a1 (p_X3_worstLoss_5 a1 post fu5) post S17 x2 x4) ∧ (r18 = true → p_X3_gainOf  S17 x4 a1 (fun r20 S19 => ((r20 ≤ 0 → p_X3_worstLoss_51 a1 (p_X3_worstLoss_5 a1 post fu5) post S19 x2 x4) ∧ (¬ r20 ≤ 0 → p_X3_lossOf  S19 x4 a1 (fun r22 S21 => ∀ y23 : Int64, y23 = (v_maxl x2 r22) → p_X3_worstLoss_51 a1 (p_X3_worstLoss_5 a1 post fu5) post S21 y23 x4)))))))))
theorem e_X3_worstLoss_5  (a1 : Int32)   (post : Int64 → vSt → Prop) (fu5 : Nat) (S : vSt) (x2 : Int64) (x4 : Int32) : p_X3_worstLoss_5 a1 post (fu5 + 1) S x2 x4 = ((((S.1 10 15) ≤ x4 → post x2 S) ∧ (¬ (S.1 10 15) ≤ x4 → p_X3_isWithin  S x4 a1 (fun r18 S17 => ((r18 = false → p_X3_worstLoss_51 a1 (p_X3_worstLoss_5 a1 post fu5) post S17 x2 x4) ∧ (r18 = true → p_X3_gainOf  S17 x4 a1 (fun r20 S19 => ((r20 ≤ 0 → p_X3_worstLoss_51 a1 (p_X3_worstLoss_5 a1 post fu5) post S19 x2 x4) ∧ (¬ r20 ≤ 0 → p_X3_lossOf  S19 x4 a1 (fun r22 S21 => ∀ y23 : Int64, y23 = (v_maxl x2 r22) → p_X3_worstLoss_51 a1 (p_X3_worstLoss_5 a1 post fu5) post S21 y23 x4)))))))))) := rfl
def p_X3_worstLoss   (S : vSt) (a1 : Int32) (post : Int64 → vSt → Prop) : Prop := ∃ fu5, p_X3_worstLoss_5 a1 post fu5 S 0 0
set_option maxHeartbeats 4000000 in
set_option maxRecDepth 100000 in
theorem q_X3_worstLoss_51 {X : vX} {G : vG}  {post : Int64 → vSt → Prop} (C : v_Cx X G cX3_worstLoss RX3 5 (v_rm 2 83)) (D : v_Rx X G (v_Ql G post) (some .long))  {a1 : Int32}  {K5 : vSt → Int64 → Int32 → Prop} (hK5 : ∀ S x2 x4, K5 S x2 x4 → VJ X G S 5 [(0, .ref (G.1 58)), (1, .int a1), (2, .long x2), (4, .int x4)] []) : ∀ (S : vSt) (x2 : Int64) (x4 : Int32), p_X3_worstLoss_51 a1 K5 post S x2 x4 → VJ X G S 51 [(0, .ref (G.1 58)), (1, .int a1), (2, .long x2), (4, .int x4)] [] := by
  intro S x2 x4 h
  obtain ⟨y19, ey19⟩ : ∃ z : Int32, z = x4 + 1 := ⟨_, rfl⟩
  have h := h y19 ey19
  refine V_iinc (lv' := [(0, .ref (G.1 58)), (1, .int a1), (2, .long x2), (4, .int y19)]) C 3 [1, 2, 3, 0] y19 dX3_worstLoss_51 rfl (by rw [ey19]; rfl) (by decide) rfl ?_
  refine V_goto (tgt := 5) C dX3_worstLoss_54 (by decide) ?_
  exact hK5 _ _ _ h
set_option maxHeartbeats 4000000 in
set_option maxRecDepth 100000 in
theorem q_X3_worstLoss_5 {X : vX} {G : vG}  {post : Int64 → vSt → Prop} (C : v_Cx X G cX3_worstLoss RX3 5 (v_rm 2 83)) (D : v_Rx X G (v_Ql G post) (some .long))  {a1 : Int32}   : ∀ (fu : Nat) (S : vSt) (x2 : Int64) (x4 : Int32), p_X3_worstLoss_5 a1 post fu S x2 x4 → VJ X G S 5 [(0, .ref (G.1 58)), (1, .int a1), (2, .long x2), (4, .int x4)] [] := by
  intro fu
  induction fu with
  | zero => intro S x2 x4 h; exact absurd h id
  | succ fu ih =>
    intro S x2 x4 h
    have hK5 := ih
    rw [e_X3_worstLoss_5] at h
    refine V_iload C 3 dX3_worstLoss_5 rfl ?_
    refine V_aload_n C 0 dX3_worstLoss_7 rfl rfl ?_
    refine V_ga C 58 (by decide) (by decide) F_3_0 k_RX3_40 dX3_worstLoss_8 ?_
    refine V_gi C 10 (by decide) (by decide) F_0_15 k_RX3_75 dX3_worstLoss_11 ?_
    refine V_icmp_ge (tgt := 57) C dX3_worstLoss_14 (by decide) (fun c => ?_) (fun c => ?_)
    · have h := h.1 c
      refine V_lload_n C 2 dX3_worstLoss_57 rfl rfl ?_
      exact V_lret C D dX3_worstLoss_58 h
    · have h := h.2 c
      refine V_aload_n C 0 dX3_worstLoss_17 rfl rfl ?_
      refine V_iload C 3 dX3_worstLoss_18 rfl ?_
      refine V_iload_n C 1 dX3_worstLoss_20 rfl rfl ?_
      refine V_callVz (As := [.int x4, .int a1]) (rest := []) C (c_X3_isWithin (v_l X) G  _ _ _ h) 58 3 (by decide) (by decide) (by decide) rfl KV_X3_isWithin k_RX3_112 rfl rfl rfl (Nat.le_of_ble_eq_true rfl) ⟨Nat.le_of_ble_eq_true rfl, Nat.le_of_ble_eq_true rfl⟩ dX3_worstLoss_21 (fun r18 S17 h => ?_)
      refine V_ifb_eq (tgt := 51) C dX3_worstLoss_24 (by decide) (fun c => ?_) (fun c => ?_)
      · have h := h.1 c
        exact q_X3_worstLoss_51 C D hK5 _ _ _ h
      · have h := h.2 c
        refine V_aload_n C 0 dX3_worstLoss_27 rfl rfl ?_
        refine V_iload C 3 dX3_worstLoss_28 rfl ?_
        refine V_iload_n C 1 dX3_worstLoss_30 rfl rfl ?_
        refine V_callVl (As := [.int x4, .int a1]) (rest := []) C (c_X3_gainOf (v_l X) G  _ _ _ h) 58 3 (by decide) (by decide) (by decide) rfl KV_X3_gainOf k_RX3_115 rfl rfl rfl (Nat.le_of_ble_eq_true rfl) ⟨Nat.le_of_ble_eq_true rfl, Nat.le_of_ble_eq_true rfl⟩ dX3_worstLoss_31 (fun r20 S19 h => ?_)
        refine V_lconst (v := 0) C dX3_worstLoss_34 (by decide) ?_
        refine V_lcmp_le (tgt := 51) C dX3_worstLoss_35 dX3_worstLoss_36 (by decide) (fun c => ?_) (fun c => ?_)
        · have h := h.1 c
          exact q_X3_worstLoss_51 C D hK5 _ _ _ h
        · have h := h.2 c
          refine V_lload_n C 2 dX3_worstLoss_39 rfl rfl ?_
          refine V_aload_n C 0 dX3_worstLoss_40 rfl rfl ?_
          refine V_iload C 3 dX3_worstLoss_41 rfl ?_
          refine V_iload_n C 1 dX3_worstLoss_43 rfl rfl ?_
          refine V_callVl (As := [.int x4, .int a1]) (rest := [.long x2]) C (c_X3_lossOf (v_l X) G  _ _ _ h) 58 3 (by decide) (by decide) (by decide) rfl KV_X3_lossOf k_RX3_132 rfl rfl rfl (Nat.le_of_ble_eq_true rfl) ⟨Nat.le_of_ble_eq_true rfl, Nat.le_of_ble_eq_true rfl⟩ dX3_worstLoss_44 (fun r22 S21 h => ?_)
          refine V_maxl C k_RX3_119 (Nat.le_of_ble_eq_true rfl) ⟨Nat.le_of_ble_eq_true rfl, Nat.le_of_ble_eq_true rfl⟩ dX3_worstLoss_47 ?_
          refine V_topl (fun y23 ey23 => ?_)
          have h := h y23 ey23
          refine V_lstore_n (lv' := [(0, .ref (G.1 58)), (1, .int a1), (2, .long y23), (4, .int x4)]) C [1, 2, 0, 3] dX3_worstLoss_50 rfl (by decide) rfl ?_
          exact q_X3_worstLoss_51 C D hK5 _ _ _ h
set_option maxHeartbeats 4000000 in
set_option maxRecDepth 100000 in
theorem c_X3_worstLoss (l : Launch) (G : vG)    {S : vSt} (a1 : Int32) (post : Int64 → vSt → Prop) (h : p_X3_worstLoss   S a1 post) : Met l yX3_worstLoss (v_ws yX3_worstLoss cX3_worstLoss 5 (some .long)) (v_rm 2 83) (v_Pc G [.ref (G.1 58), .int a1] S) (v_Ql G post) 0 0 (v_A G) := by
  refine v_start (by decide +kernel) (Nat.le_of_ble_eq_true rfl) (fun X hl C D => ?_)
  subst hl
  have C : v_Cx X G cX3_worstLoss RX3 5 (v_rm 2 83) := C
  show VJ X G S 0 [(0, .ref (G.1 58)), (1, .int a1)] []
  refine V_lconst (v := 0) C dX3_worstLoss_0 (by decide) ?_
  refine V_lstore_n (lv' := [(0, .ref (G.1 58)), (1, .int a1), (2, .long 0)]) C [1, 2, 0] dX3_worstLoss_1 rfl (by decide) rfl ?_
  refine V_iconst (v := 0) C dX3_worstLoss_2 (by decide) ?_
  refine V_istore (lv' := [(0, .ref (G.1 58)), (1, .int a1), (2, .long 0), (4, .int 0)]) C [1, 2, 3, 0] dX3_worstLoss_3 (by decide) rfl ?_
  obtain ⟨fu5, h⟩ := h
  exact q_X3_worstLoss_5 C D  fu5 _ _ _ h
/-! HalfAccuser$Hopes.dreadOf(I)J -/
theorem dX3_dreadOf_0 : decode cX3_dreadOf 0 = .ok ((.lconst 0), 1) := by decide +kernel
theorem dX3_dreadOf_1 : decode cX3_dreadOf 1 = .ok ((.lstore_n 2), 1) := by decide +kernel
theorem dX3_dreadOf_2 : decode cX3_dreadOf 2 = .ok ((.iconst 0), 1) := by decide +kernel
theorem dX3_dreadOf_3 : decode cX3_dreadOf 3 = .ok ((.istore 4), 2) := by decide +kernel
theorem dX3_dreadOf_5 : decode cX3_dreadOf 5 = .ok ((.iload 4), 2) := by decide +kernel
theorem dX3_dreadOf_7 : decode cX3_dreadOf 7 = .ok ((.aload_n 0), 1) := by decide +kernel
theorem dX3_dreadOf_8 : decode cX3_dreadOf 8 = .ok ((.getfield 40), 3) := by decide +kernel
theorem dX3_dreadOf_11 : decode cX3_dreadOf 11 = .ok ((.getfield 82), 3) := by decide +kernel
theorem dX3_dreadOf_14 : decode cX3_dreadOf 14 = .ok ((.if_icmp .ge 35), 3) := by decide +kernel
theorem dX3_dreadOf_17 : decode cX3_dreadOf 17 = .ok ((.lload_n 2), 1) := by decide +kernel
theorem dX3_dreadOf_18 : decode cX3_dreadOf 18 = .ok ((.aload_n 0), 1) := by decide +kernel
theorem dX3_dreadOf_19 : decode cX3_dreadOf 19 = .ok ((.getfield 40), 3) := by decide +kernel
theorem dX3_dreadOf_22 : decode cX3_dreadOf 22 = .ok ((.iload_n 1), 1) := by decide +kernel
theorem dX3_dreadOf_23 : decode cX3_dreadOf 23 = .ok ((.iload 4), 2) := by decide +kernel
theorem dX3_dreadOf_25 : decode cX3_dreadOf 25 = .ok ((.invokevirtual 135), 3) := by decide +kernel
theorem dX3_dreadOf_28 : decode cX3_dreadOf 28 = .ok ((.ifCond .eq 12), 3) := by decide +kernel
theorem dX3_dreadOf_31 : decode cX3_dreadOf 31 = .ok ((.aload_n 0), 1) := by decide +kernel
theorem dX3_dreadOf_32 : decode cX3_dreadOf 32 = .ok ((.iload 4), 2) := by decide +kernel
theorem dX3_dreadOf_34 : decode cX3_dreadOf 34 = .ok ((.invokevirtual 138), 3) := by decide +kernel
theorem dX3_dreadOf_37 : decode cX3_dreadOf 37 = .ok ((.goto 4), 3) := by decide +kernel
theorem dX3_dreadOf_40 : decode cX3_dreadOf 40 = .ok ((.lconst 0), 1) := by decide +kernel
theorem dX3_dreadOf_41 : decode cX3_dreadOf 41 = .ok (.ladd, 1) := by decide +kernel
theorem dX3_dreadOf_42 : decode cX3_dreadOf 42 = .ok ((.lstore_n 2), 1) := by decide +kernel
theorem dX3_dreadOf_43 : decode cX3_dreadOf 43 = .ok ((.iinc 4 1), 3) := by decide +kernel
theorem dX3_dreadOf_46 : decode cX3_dreadOf 46 = .ok ((.goto (-41)), 3) := by decide +kernel
theorem dX3_dreadOf_49 : decode cX3_dreadOf 49 = .ok ((.lload_n 2), 1) := by decide +kernel
theorem dX3_dreadOf_50 : decode cX3_dreadOf 50 = .ok (.lreturn, 1) := by decide +kernel
def p_X3_dreadOf_41  (a1 : Int32)  (K5 : vSt → Int64 → Int32 → Prop) (post : Int64 → vSt → Prop) (S : vSt) (x4 : Int32) (s0 : Int64) (s1 : Int64) : Prop := ∀ y15 : Int64, y15 = (s1 + s0) → ∀ y16 : Int32, y16 = x4 + 1 → K5 S y15 y16
def p_X3_dreadOf_5  (a1 : Int32)   (post : Int64 → vSt → Prop) : Nat → vSt → Int64 → Int32 → Prop
  | 0 => fun _ _ _ => False
  | fu5 + 1 => fun S x2 x4 => (((S.1 10 16) ≤ x4 → post x2 S) ∧ (¬ (S.1 10 16) ≤ x4 → p_X0_isOwn 10 S a1 x4 (fun r14 S13 => ((r14 = false → p_X3_dreadOf_41 a1 (p_X3_dreadOf_5 a1 post fu5) post S13 x4 0 x2) ∧ (r14 = true → p_X3_worstLoss  S13 x4 (fun r16 S15 => p_X3_dreadOf_41 a1 (p_X3_dreadOf_5 a1 post fu5) post S15 x4 r16 x2))))))
theorem e_X3_dreadOf_5  (a1 : Int32)   (post : Int64 → vSt → Prop) (fu5 : Nat) (S : vSt) (x2 : Int64) (x4 : Int32) : p_X3_dreadOf_5 a1 post (fu5 + 1) S x2 x4 = ((((S.1 10 16) ≤ x4 → post x2 S) ∧ (¬ (S.1 10 16) ≤ x4 → p_X0_isOwn 10 S a1 x4 (fun r14 S13 => ((r14 = false → p_X3_dreadOf_41 a1 (p_X3_dreadOf_5 a1 post fu5) post S13 x4 0 x2) ∧ (r14 = true → p_X3_worstLoss  S13 x4 (fun r16 S15 => p_X3_dreadOf_41 a1 (p_X3_dreadOf_5 a1 post fu5) post S15 x4 r16 x2))))))) := rfl
def p_X3_dreadOf   (S : vSt) (a1 : Int32) (post : Int64 → vSt → Prop) : Prop := ∃ fu5, p_X3_dreadOf_5 a1 post fu5 S 0 0
set_option maxHeartbeats 4000000 in
set_option maxRecDepth 100000 in
theorem q_X3_dreadOf_41 {X : vX} {G : vG}  {post : Int64 → vSt → Prop} (C : v_Cx X G cX3_dreadOf RX3 5 (v_rm 3 107)) (D : v_Rx X G (v_Ql G post) (some .long))  {a1 : Int32}  {K5 : vSt → Int64 → Int32 → Prop} (hK5 : ∀ S x2 x4, K5 S x2 x4 → VJ X G S 5 [(0, .ref (G.1 58)), (1, .int a1), (2, .long x2), (4, .int x4)] []) : ∀ (S : vSt) (x4 : Int32) (s0 : Int64) (s1 : Int64), p_X3_dreadOf_41 a1 K5 post S x4 s0 s1 → VJ X G S 41 [(0, .ref (G.1 58)), (1, .int a1), (4, .int x4)] [.long s0, .long s1] := by
  intro S x4 s0 s1 h
  refine V_ladd C dX3_dreadOf_41 ?_
  refine V_topl (fun y15 ey15 => ?_)
  have h := h y15 ey15
  refine V_lstore_n (lv' := [(0, .ref (G.1 58)), (1, .int a1), (2, .long y15), (4, .int x4)]) C [1, 2, 0, 3] dX3_dreadOf_42 rfl (by decide) rfl ?_
  obtain ⟨y16, ey16⟩ : ∃ z : Int32, z = x4 + 1 := ⟨_, rfl⟩
  have h := h y16 ey16
  refine V_iinc (lv' := [(0, .ref (G.1 58)), (1, .int a1), (2, .long y15), (4, .int y16)]) C 3 [1, 2, 3, 0] y16 dX3_dreadOf_43 rfl (by rw [ey16]; rfl) (by decide) rfl ?_
  refine V_goto (tgt := 5) C dX3_dreadOf_46 (by decide) ?_
  exact hK5 _ _ _ h
set_option maxHeartbeats 4000000 in
set_option maxRecDepth 100000 in
theorem q_X3_dreadOf_5 {X : vX} {G : vG}  {post : Int64 → vSt → Prop} (C : v_Cx X G cX3_dreadOf RX3 5 (v_rm 3 107)) (D : v_Rx X G (v_Ql G post) (some .long))  {a1 : Int32}   : ∀ (fu : Nat) (S : vSt) (x2 : Int64) (x4 : Int32), p_X3_dreadOf_5 a1 post fu S x2 x4 → VJ X G S 5 [(0, .ref (G.1 58)), (1, .int a1), (2, .long x2), (4, .int x4)] [] := by
  intro fu
  induction fu with
  | zero => intro S x2 x4 h; exact absurd h id
  | succ fu ih =>
    intro S x2 x4 h
    have hK5 := ih
    rw [e_X3_dreadOf_5] at h
    refine V_iload C 3 dX3_dreadOf_5 rfl ?_
    refine V_aload_n C 0 dX3_dreadOf_7 rfl rfl ?_
    refine V_ga C 58 (by decide) (by decide) F_3_0 k_RX3_40 dX3_dreadOf_8 ?_
    refine V_gi C 10 (by decide) (by decide) F_0_16 k_RX3_82 dX3_dreadOf_11 ?_
    refine V_icmp_ge (tgt := 49) C dX3_dreadOf_14 (by decide) (fun c => ?_) (fun c => ?_)
    · have h := h.1 c
      refine V_lload_n C 2 dX3_dreadOf_49 rfl rfl ?_
      exact V_lret C D dX3_dreadOf_50 h
    · have h := h.2 c
      refine V_lload_n C 2 dX3_dreadOf_17 rfl rfl ?_
      refine V_aload_n C 0 dX3_dreadOf_18 rfl rfl ?_
      refine V_ga C 58 (by decide) (by decide) F_3_0 k_RX3_40 dX3_dreadOf_19 ?_
      refine V_iload_n C 1 dX3_dreadOf_22 rfl rfl ?_
      refine V_iload C 3 dX3_dreadOf_23 rfl ?_
      refine V_callVz (As := [.int a1, .int x4]) (rest := [.long x2]) C (c_X0_isOwn (v_l X) G v_i10 _ _ _ h) 10 0 (by decide) (by decide) (by decide) rfl KV_X0_isOwn k_RX3_135 rfl rfl rfl (Nat.le_of_ble_eq_true rfl) ⟨Nat.le_of_ble_eq_true rfl, Nat.le_of_ble_eq_true rfl⟩ dX3_dreadOf_25 (fun r14 S13 h => ?_)
      refine V_ifb_eq (tgt := 40) C dX3_dreadOf_28 (by decide) (fun c => ?_) (fun c => ?_)
      · have h := h.1 c
        refine V_lconst (v := 0) C dX3_dreadOf_40 (by decide) ?_
        refine V_loc (lv' := [(0, .ref (G.1 58)), (1, .int a1), (4, .int x4)]) [0, 1, 3] rfl ?_
        exact q_X3_dreadOf_41 C D hK5 _ _ _ _ h
      · have h := h.2 c
        refine V_aload_n C 0 dX3_dreadOf_31 rfl rfl ?_
        refine V_iload C 3 dX3_dreadOf_32 rfl ?_
        refine V_callVl (As := [.int x4]) (rest := [.long x2]) C (c_X3_worstLoss (v_l X) G  _ _ h) 58 3 (by decide) (by decide) (by decide) rfl KV_X3_worstLoss k_RX3_138 rfl rfl rfl (Nat.le_of_ble_eq_true rfl) ⟨Nat.le_of_ble_eq_true rfl, Nat.le_of_ble_eq_true rfl⟩ dX3_dreadOf_34 (fun r16 S15 h => ?_)
        refine V_goto (tgt := 41) C dX3_dreadOf_37 (by decide) ?_
        refine V_loc (lv' := [(0, .ref (G.1 58)), (1, .int a1), (4, .int x4)]) [0, 1, 3] rfl ?_
        exact q_X3_dreadOf_41 C D hK5 _ _ _ _ h
set_option maxHeartbeats 4000000 in
set_option maxRecDepth 100000 in
theorem c_X3_dreadOf (l : Launch) (G : vG)    {S : vSt} (a1 : Int32) (post : Int64 → vSt → Prop) (h : p_X3_dreadOf   S a1 post) : Met l yX3_dreadOf (v_ws yX3_dreadOf cX3_dreadOf 5 (some .long)) (v_rm 3 107) (v_Pc G [.ref (G.1 58), .int a1] S) (v_Ql G post) 0 0 (v_A G) := by
  refine v_start (by decide +kernel) (Nat.le_of_ble_eq_true rfl) (fun X hl C D => ?_)
  subst hl
  have C : v_Cx X G cX3_dreadOf RX3 5 (v_rm 3 107) := C
  show VJ X G S 0 [(0, .ref (G.1 58)), (1, .int a1)] []
  refine V_lconst (v := 0) C dX3_dreadOf_0 (by decide) ?_
  refine V_lstore_n (lv' := [(0, .ref (G.1 58)), (1, .int a1), (2, .long 0)]) C [1, 2, 0] dX3_dreadOf_1 rfl (by decide) rfl ?_
  refine V_iconst (v := 0) C dX3_dreadOf_2 (by decide) ?_
  refine V_istore (lv' := [(0, .ref (G.1 58)), (1, .int a1), (2, .long 0), (4, .int 0)]) C [1, 2, 3, 0] dX3_dreadOf_3 (by decide) rfl ?_
  obtain ⟨fu5, h⟩ := h
  exact q_X3_dreadOf_5 C D  fu5 _ _ _ h
/-! HalfAccuser$Games.setClub()V -/
theorem dX2_setClub_0 : decode cX2_setClub 0 = .ok ((.iconst 0), 1) := by decide +kernel
theorem dX2_setClub_1 : decode cX2_setClub 1 = .ok ((.istore_n 1), 1) := by decide +kernel
theorem dX2_setClub_2 : decode cX2_setClub 2 = .ok ((.iload_n 1), 1) := by decide +kernel
theorem dX2_setClub_3 : decode cX2_setClub 3 = .ok ((.aload_n 0), 1) := by decide +kernel
theorem dX2_setClub_4 : decode cX2_setClub 4 = .ok ((.getfield 22), 3) := by decide +kernel
theorem dX2_setClub_7 : decode cX2_setClub 7 = .ok ((.getfield 89), 3) := by decide +kernel
theorem dX2_setClub_10 : decode cX2_setClub 10 = .ok ((.if_icmp .ge 25), 3) := by decide +kernel
theorem dX2_setClub_13 : decode cX2_setClub 13 = .ok ((.aload_n 0), 1) := by decide +kernel
theorem dX2_setClub_14 : decode cX2_setClub 14 = .ok ((.getfield 19), 3) := by decide +kernel
theorem dX2_setClub_17 : decode cX2_setClub 17 = .ok ((.iload_n 1), 1) := by decide +kernel
theorem dX2_setClub_18 : decode cX2_setClub 18 = .ok ((.aload_n 0), 1) := by decide +kernel
theorem dX2_setClub_19 : decode cX2_setClub 19 = .ok ((.getfield 26), 3) := by decide +kernel
theorem dX2_setClub_22 : decode cX2_setClub 22 = .ok ((.iload_n 1), 1) := by decide +kernel
theorem dX2_setClub_23 : decode cX2_setClub 23 = .ok ((.invokevirtual 92), 3) := by decide +kernel
theorem dX2_setClub_26 : decode cX2_setClub 26 = .ok ((.invokestatic 59), 3) := by decide +kernel
theorem dX2_setClub_29 : decode cX2_setClub 29 = .ok ((.iinc 1 1), 3) := by decide +kernel
theorem dX2_setClub_32 : decode cX2_setClub 32 = .ok ((.goto (-30)), 3) := by decide +kernel
theorem dX2_setClub_35 : decode cX2_setClub 35 = .ok (.return_, 1) := by decide +kernel
def p_X2_setClub_2     (post : vSt → Prop) : Nat → vSt → Int32 → Prop
  | 0 => fun _ _ => False
  | fu2 + 1 => fun S x1 => (((S.1 10 15) ≤ x1 → post S) ∧ (¬ (S.1 10 15) ≤ x1 → p_X3_dreadOf  S x1 (fun r10 S9 => p_X10_put_ 71 8 S9 x1 r10 (fun S11 => ∀ y12 : Int32, y12 = x1 + 1 → (p_X2_setClub_2  post fu2) S11 y12))))
theorem e_X2_setClub_2     (post : vSt → Prop) (fu2 : Nat) (S : vSt) (x1 : Int32) : p_X2_setClub_2  post (fu2 + 1) S x1 = ((((S.1 10 15) ≤ x1 → post S) ∧ (¬ (S.1 10 15) ≤ x1 → p_X3_dreadOf  S x1 (fun r10 S9 => p_X10_put_ 71 8 S9 x1 r10 (fun S11 => ∀ y12 : Int32, y12 = x1 + 1 → (p_X2_setClub_2  post fu2) S11 y12))))) := rfl
def p_X2_setClub   (S : vSt)  (post : vSt → Prop) : Prop := ∃ fu2, p_X2_setClub_2  post fu2 S 0
set_option maxHeartbeats 4000000 in
set_option maxRecDepth 100000 in
theorem q_X2_setClub_2 {X : vX} {G : vG}  {post : vSt → Prop} (C : v_Cx X G cX2_setClub RX2 2 (v_rm 4 131)) (D : v_Rx X G (v_Qv G post) none)     : ∀ (fu : Nat) (S : vSt) (x1 : Int32), p_X2_setClub_2  post fu S x1 → VJ X G S 2 [(0, .ref (G.1 68)), (1, .int x1)] [] := by
  intro fu
  induction fu with
  | zero => intro S x1 h; exact absurd h id
  | succ fu ih =>
    intro S x1 h
    have hK2 := ih
    rw [e_X2_setClub_2] at h
    refine V_iload_n C 1 dX2_setClub_2 rfl rfl ?_
    refine V_aload_n C 0 dX2_setClub_3 rfl rfl ?_
    refine V_ga C 68 (by decide) (by decide) F_2_0 k_RX2_22 dX2_setClub_4 ?_
    refine V_gi C 10 (by decide) (by decide) F_0_15 k_RX2_89 dX2_setClub_7 ?_
    refine V_icmp_ge (tgt := 35) C dX2_setClub_10 (by decide) (fun c => ?_) (fun c => ?_)
    · have h := h.1 c
      exact V_vret C D dX2_setClub_35 h
    · have h := h.2 c
      refine V_aload_n C 0 dX2_setClub_13 rfl rfl ?_
      refine V_ga C 68 (by decide) (by decide) F_2_4 k_RX2_19 dX2_setClub_14 ?_
      refine V_iload_n C 1 dX2_setClub_17 rfl rfl ?_
      refine V_aload_n C 0 dX2_setClub_18 rfl rfl ?_
      refine V_ga C 68 (by decide) (by decide) F_2_1 k_RX2_26 dX2_setClub_19 ?_
      refine V_iload_n C 1 dX2_setClub_22 rfl rfl ?_
      refine V_callVl (As := [.int x1]) (rest := [.int x1, .ref (G.1 71)]) C (c_X3_dreadOf (v_l X) G  _ _ h) 58 3 (by decide) (by decide) (by decide) rfl KV_X3_dreadOf k_RX2_92 rfl rfl rfl (Nat.le_of_ble_eq_true rfl) ⟨Nat.le_of_ble_eq_true rfl, Nat.le_of_ble_eq_true rfl⟩ dX2_setClub_23 (fun r10 S9 h => ?_)
      refine V_callSNv (As := [.ref (G.1 71), .int x1, .long r10]) (rest := []) C (c_X10_put_ (v_l X) G (by decide) (by decide) _ _ _ h) KV_X10_put_ (List.mem_of_getElem? (i := 15) rfl) rfl rfl rfl (Nat.le_of_ble_eq_true rfl) ⟨Nat.le_of_ble_eq_true rfl, Nat.le_of_ble_eq_true rfl⟩ dX2_setClub_26 (fun S11 h => ?_)
      obtain ⟨y12, ey12⟩ : ∃ z : Int32, z = x1 + 1 := ⟨_, rfl⟩
      have h := h y12 ey12
      refine V_iinc (lv' := [(0, .ref (G.1 68)), (1, .int y12)]) C 1 [1, 0] y12 dX2_setClub_29 rfl (by rw [ey12]; rfl) (by decide) rfl ?_
      refine V_goto (tgt := 2) C dX2_setClub_32 (by decide) ?_
      exact hK2 _ _ h
set_option maxHeartbeats 4000000 in
set_option maxRecDepth 100000 in
theorem c_X2_setClub (l : Launch) (G : vG)    {S : vSt}  (post : vSt → Prop) (h : p_X2_setClub   S  post) : Met l yX2_setClub (v_ws yX2_setClub cX2_setClub 2 none) (v_rm 4 131) (v_Pc G [.ref (G.1 68)] S) (v_Qv G post) 0 0 (v_A G) := by
  refine v_start (by decide +kernel) (Nat.le_of_ble_eq_true rfl) (fun X hl C D => ?_)
  subst hl
  have C : v_Cx X G cX2_setClub RX2 2 (v_rm 4 131) := C
  show VJ X G S 0 [(0, .ref (G.1 68))] []
  refine V_iconst (v := 0) C dX2_setClub_0 (by decide) ?_
  refine V_istore_n (lv' := [(0, .ref (G.1 68)), (1, .int 0)]) C [1, 0] dX2_setClub_1 rfl (by decide) rfl ?_
  obtain ⟨fu2, h⟩ := h
  exact q_X2_setClub_2 C D  fu2 _ _ h
/-! HalfAccuser$Games.sumOfDreads(I)J -/
theorem dX2_sumOfDreads_0 : decode cX2_sumOfDreads 0 = .ok ((.lconst 0), 1) := by decide +kernel
theorem dX2_sumOfDreads_1 : decode cX2_sumOfDreads 1 = .ok ((.lstore_n 2), 1) := by decide +kernel
theorem dX2_sumOfDreads_2 : decode cX2_sumOfDreads 2 = .ok ((.iconst 0), 1) := by decide +kernel
theorem dX2_sumOfDreads_3 : decode cX2_sumOfDreads 3 = .ok ((.istore 4), 2) := by decide +kernel
theorem dX2_sumOfDreads_5 : decode cX2_sumOfDreads 5 = .ok ((.iload 4), 2) := by decide +kernel
theorem dX2_sumOfDreads_7 : decode cX2_sumOfDreads 7 = .ok ((.aload_n 0), 1) := by decide +kernel
theorem dX2_sumOfDreads_8 : decode cX2_sumOfDreads 8 = .ok ((.getfield 22), 3) := by decide +kernel
theorem dX2_sumOfDreads_11 : decode cX2_sumOfDreads 11 = .ok ((.getfield 89), 3) := by decide +kernel
theorem dX2_sumOfDreads_14 : decode cX2_sumOfDreads 14 = .ok ((.if_icmp .ge 34), 3) := by decide +kernel
theorem dX2_sumOfDreads_17 : decode cX2_sumOfDreads 17 = .ok ((.lload_n 2), 1) := by decide +kernel
theorem dX2_sumOfDreads_18 : decode cX2_sumOfDreads 18 = .ok ((.iload_n 1), 1) := by decide +kernel
theorem dX2_sumOfDreads_19 : decode cX2_sumOfDreads 19 = .ok ((.iload 4), 2) := by decide +kernel
theorem dX2_sumOfDreads_21 : decode cX2_sumOfDreads 21 = .ok ((.invokestatic 70), 3) := by decide +kernel
theorem dX2_sumOfDreads_24 : decode cX2_sumOfDreads 24 = .ok ((.ifCond .eq 15), 3) := by decide +kernel
theorem dX2_sumOfDreads_27 : decode cX2_sumOfDreads 27 = .ok ((.aload_n 0), 1) := by decide +kernel
theorem dX2_sumOfDreads_28 : decode cX2_sumOfDreads 28 = .ok ((.getfield 19), 3) := by decide +kernel
theorem dX2_sumOfDreads_31 : decode cX2_sumOfDreads 31 = .ok ((.iload 4), 2) := by decide +kernel
theorem dX2_sumOfDreads_33 : decode cX2_sumOfDreads 33 = .ok ((.invokestatic 73), 3) := by decide +kernel
theorem dX2_sumOfDreads_36 : decode cX2_sumOfDreads 36 = .ok ((.goto 4), 3) := by decide +kernel
theorem dX2_sumOfDreads_39 : decode cX2_sumOfDreads 39 = .ok ((.lconst 0), 1) := by decide +kernel
theorem dX2_sumOfDreads_40 : decode cX2_sumOfDreads 40 = .ok (.ladd, 1) := by decide +kernel
theorem dX2_sumOfDreads_41 : decode cX2_sumOfDreads 41 = .ok ((.lstore_n 2), 1) := by decide +kernel
theorem dX2_sumOfDreads_42 : decode cX2_sumOfDreads 42 = .ok ((.iinc 4 1), 3) := by decide +kernel
theorem dX2_sumOfDreads_45 : decode cX2_sumOfDreads 45 = .ok ((.goto (-40)), 3) := by decide +kernel
theorem dX2_sumOfDreads_48 : decode cX2_sumOfDreads 48 = .ok ((.lload_n 2), 1) := by decide +kernel
theorem dX2_sumOfDreads_49 : decode cX2_sumOfDreads 49 = .ok (.lreturn, 1) := by decide +kernel
def p_X2_sumOfDreads_40  (a1 : Int32)  (K5 : vSt → Int64 → Int32 → Prop) (post : Int64 → vSt → Prop) (S : vSt) (x4 : Int32) (s0 : Int64) (s1 : Int64) : Prop := ∀ y15 : Int64, y15 = (s1 + s0) → ∀ y16 : Int32, y16 = x4 + 1 → K5 S y15 y16
def p_X2_sumOfDreads_5  (a1 : Int32)   (post : Int64 → vSt → Prop) : Nat → vSt → Int64 → Int32 → Prop
  | 0 => fun _ _ _ => False
  | fu5 + 1 => fun S x2 x4 => (((S.1 10 15) ≤ x4 → post x2 S) ∧ (¬ (S.1 10 15) ≤ x4 → p_X10_isIn  S a1 x4 (fun r14 S13 => ((r14 = false → p_X2_sumOfDreads_40 a1 (p_X2_sumOfDreads_5 a1 post fu5) post S13 x4 0 x2) ∧ (r14 = true → p_X10_at_ 71 8 S13 x4 (fun r16 S15 => p_X2_sumOfDreads_40 a1 (p_X2_sumOfDreads_5 a1 post fu5) post S15 x4 r16 x2))))))
theorem e_X2_sumOfDreads_5  (a1 : Int32)   (post : Int64 → vSt → Prop) (fu5 : Nat) (S : vSt) (x2 : Int64) (x4 : Int32) : p_X2_sumOfDreads_5 a1 post (fu5 + 1) S x2 x4 = ((((S.1 10 15) ≤ x4 → post x2 S) ∧ (¬ (S.1 10 15) ≤ x4 → p_X10_isIn  S a1 x4 (fun r14 S13 => ((r14 = false → p_X2_sumOfDreads_40 a1 (p_X2_sumOfDreads_5 a1 post fu5) post S13 x4 0 x2) ∧ (r14 = true → p_X10_at_ 71 8 S13 x4 (fun r16 S15 => p_X2_sumOfDreads_40 a1 (p_X2_sumOfDreads_5 a1 post fu5) post S15 x4 r16 x2))))))) := rfl
def p_X2_sumOfDreads   (S : vSt) (a1 : Int32) (post : Int64 → vSt → Prop) : Prop := ∃ fu5, p_X2_sumOfDreads_5 a1 post fu5 S 0 0
set_option maxHeartbeats 4000000 in
set_option maxRecDepth 100000 in
theorem q_X2_sumOfDreads_40 {X : vX} {G : vG}  {post : Int64 → vSt → Prop} (C : v_Cx X G cX2_sumOfDreads RX2 5 (v_rm 1 61)) (D : v_Rx X G (v_Ql G post) (some .long))  {a1 : Int32}  {K5 : vSt → Int64 → Int32 → Prop} (hK5 : ∀ S x2 x4, K5 S x2 x4 → VJ X G S 5 [(0, .ref (G.1 68)), (1, .int a1), (2, .long x2), (4, .int x4)] []) : ∀ (S : vSt) (x4 : Int32) (s0 : Int64) (s1 : Int64), p_X2_sumOfDreads_40 a1 K5 post S x4 s0 s1 → VJ X G S 40 [(0, .ref (G.1 68)), (1, .int a1), (4, .int x4)] [.long s0, .long s1] := by
  intro S x4 s0 s1 h
  refine V_ladd C dX2_sumOfDreads_40 ?_
  refine V_topl (fun y15 ey15 => ?_)
  have h := h y15 ey15
  refine V_lstore_n (lv' := [(0, .ref (G.1 68)), (1, .int a1), (2, .long y15), (4, .int x4)]) C [1, 2, 0, 3] dX2_sumOfDreads_41 rfl (by decide) rfl ?_
  obtain ⟨y16, ey16⟩ : ∃ z : Int32, z = x4 + 1 := ⟨_, rfl⟩
  have h := h y16 ey16
  refine V_iinc (lv' := [(0, .ref (G.1 68)), (1, .int a1), (2, .long y15), (4, .int y16)]) C 3 [1, 2, 3, 0] y16 dX2_sumOfDreads_42 rfl (by rw [ey16]; rfl) (by decide) rfl ?_
  refine V_goto (tgt := 5) C dX2_sumOfDreads_45 (by decide) ?_
  exact hK5 _ _ _ h
set_option maxHeartbeats 4000000 in
set_option maxRecDepth 100000 in
theorem q_X2_sumOfDreads_5 {X : vX} {G : vG}  {post : Int64 → vSt → Prop} (C : v_Cx X G cX2_sumOfDreads RX2 5 (v_rm 1 61)) (D : v_Rx X G (v_Ql G post) (some .long))  {a1 : Int32}   : ∀ (fu : Nat) (S : vSt) (x2 : Int64) (x4 : Int32), p_X2_sumOfDreads_5 a1 post fu S x2 x4 → VJ X G S 5 [(0, .ref (G.1 68)), (1, .int a1), (2, .long x2), (4, .int x4)] [] := by
  intro fu
  induction fu with
  | zero => intro S x2 x4 h; exact absurd h id
  | succ fu ih =>
    intro S x2 x4 h
    have hK5 := ih
    rw [e_X2_sumOfDreads_5] at h
    refine V_iload C 3 dX2_sumOfDreads_5 rfl ?_
    refine V_aload_n C 0 dX2_sumOfDreads_7 rfl rfl ?_
    refine V_ga C 68 (by decide) (by decide) F_2_0 k_RX2_22 dX2_sumOfDreads_8 ?_
    refine V_gi C 10 (by decide) (by decide) F_0_15 k_RX2_89 dX2_sumOfDreads_11 ?_
    refine V_icmp_ge (tgt := 48) C dX2_sumOfDreads_14 (by decide) (fun c => ?_) (fun c => ?_)
    · have h := h.1 c
      refine V_lload_n C 2 dX2_sumOfDreads_48 rfl rfl ?_
      exact V_lret C D dX2_sumOfDreads_49 h
    · have h := h.2 c
      refine V_lload_n C 2 dX2_sumOfDreads_17 rfl rfl ?_
      refine V_iload_n C 1 dX2_sumOfDreads_18 rfl rfl ?_
      refine V_iload C 3 dX2_sumOfDreads_19 rfl ?_
      refine V_callSNz (As := [.int a1, .int x4]) (rest := [.long x2]) C (c_X10_isIn (v_l X) G  _ _ _ h) KV_X10_isIn (List.mem_of_getElem? (i := 17) rfl) rfl rfl rfl (Nat.le_of_ble_eq_true rfl) ⟨Nat.le_of_ble_eq_true rfl, Nat.le_of_ble_eq_true rfl⟩ dX2_sumOfDreads_21 (fun r14 S13 h => ?_)
      refine V_ifb_eq (tgt := 39) C dX2_sumOfDreads_24 (by decide) (fun c => ?_) (fun c => ?_)
      · have h := h.1 c
        refine V_lconst (v := 0) C dX2_sumOfDreads_39 (by decide) ?_
        refine V_loc (lv' := [(0, .ref (G.1 68)), (1, .int a1), (4, .int x4)]) [0, 1, 3] rfl ?_
        exact q_X2_sumOfDreads_40 C D hK5 _ _ _ _ h
      · have h := h.2 c
        refine V_aload_n C 0 dX2_sumOfDreads_27 rfl rfl ?_
        refine V_ga C 68 (by decide) (by decide) F_2_4 k_RX2_19 dX2_sumOfDreads_28 ?_
        refine V_iload C 3 dX2_sumOfDreads_31 rfl ?_
        refine V_callSNl (As := [.ref (G.1 71), .int x4]) (rest := [.long x2]) C (c_X10_at_ (v_l X) G (by decide) (by decide) _ _ h) KV_X10_at_ (List.mem_of_getElem? (i := 18) rfl) rfl rfl rfl (Nat.le_of_ble_eq_true rfl) ⟨Nat.le_of_ble_eq_true rfl, Nat.le_of_ble_eq_true rfl⟩ dX2_sumOfDreads_33 (fun r16 S15 h => ?_)
        refine V_goto (tgt := 40) C dX2_sumOfDreads_36 (by decide) ?_
        refine V_loc (lv' := [(0, .ref (G.1 68)), (1, .int a1), (4, .int x4)]) [0, 1, 3] rfl ?_
        exact q_X2_sumOfDreads_40 C D hK5 _ _ _ _ h
set_option maxHeartbeats 4000000 in
set_option maxRecDepth 100000 in
theorem c_X2_sumOfDreads (l : Launch) (G : vG)    {S : vSt} (a1 : Int32) (post : Int64 → vSt → Prop) (h : p_X2_sumOfDreads   S a1 post) : Met l yX2_sumOfDreads (v_ws yX2_sumOfDreads cX2_sumOfDreads 5 (some .long)) (v_rm 1 61) (v_Pc G [.ref (G.1 68), .int a1] S) (v_Ql G post) 0 0 (v_A G) := by
  refine v_start (by decide +kernel) (Nat.le_of_ble_eq_true rfl) (fun X hl C D => ?_)
  subst hl
  have C : v_Cx X G cX2_sumOfDreads RX2 5 (v_rm 1 61) := C
  show VJ X G S 0 [(0, .ref (G.1 68)), (1, .int a1)] []
  refine V_lconst (v := 0) C dX2_sumOfDreads_0 (by decide) ?_
  refine V_lstore_n (lv' := [(0, .ref (G.1 68)), (1, .int a1), (2, .long 0)]) C [1, 2, 0] dX2_sumOfDreads_1 rfl (by decide) rfl ?_
  refine V_iconst (v := 0) C dX2_sumOfDreads_2 (by decide) ?_
  refine V_istore (lv' := [(0, .ref (G.1 68)), (1, .int a1), (2, .long 0), (4, .int 0)]) C [1, 2, 3, 0] dX2_sumOfDreads_3 (by decide) rfl ?_
  obtain ⟨fu5, h⟩ := h
  exact q_X2_sumOfDreads_5 C D  fu5 _ _ _ h
/-! java/lang/Integer.bitCount(I)I -/
theorem dJ6_bitCount_0f7a4_0 : decode cJ6_bitCount_0f7a4 0 = .ok ((.iload_n 0), 1) := by decide +kernel
theorem dJ6_bitCount_0f7a4_1 : decode cJ6_bitCount_0f7a4 1 = .ok ((.iload_n 0), 1) := by decide +kernel
theorem dJ6_bitCount_0f7a4_2 : decode cJ6_bitCount_0f7a4 2 = .ok ((.iconst 1), 1) := by decide +kernel
theorem dJ6_bitCount_0f7a4_3 : decode cJ6_bitCount_0f7a4 3 = .ok (.iushr, 1) := by decide +kernel
theorem dJ6_bitCount_0f7a4_4 : decode cJ6_bitCount_0f7a4 4 = .ok ((.ldc_w 265), 3) := by decide +kernel
theorem dJ6_bitCount_0f7a4_7 : decode cJ6_bitCount_0f7a4 7 = .ok (.iand, 1) := by decide +kernel
theorem dJ6_bitCount_0f7a4_8 : decode cJ6_bitCount_0f7a4 8 = .ok (.isub, 1) := by decide +kernel
theorem dJ6_bitCount_0f7a4_9 : decode cJ6_bitCount_0f7a4 9 = .ok ((.istore_n 0), 1) := by decide +kernel
theorem dJ6_bitCount_0f7a4_10 : decode cJ6_bitCount_0f7a4 10 = .ok ((.iload_n 0), 1) := by decide +kernel
theorem dJ6_bitCount_0f7a4_11 : decode cJ6_bitCount_0f7a4 11 = .ok ((.ldc_w 266), 3) := by decide +kernel
theorem dJ6_bitCount_0f7a4_14 : decode cJ6_bitCount_0f7a4 14 = .ok (.iand, 1) := by decide +kernel
theorem dJ6_bitCount_0f7a4_15 : decode cJ6_bitCount_0f7a4 15 = .ok ((.iload_n 0), 1) := by decide +kernel
theorem dJ6_bitCount_0f7a4_16 : decode cJ6_bitCount_0f7a4 16 = .ok ((.iconst 2), 1) := by decide +kernel
theorem dJ6_bitCount_0f7a4_17 : decode cJ6_bitCount_0f7a4 17 = .ok (.iushr, 1) := by decide +kernel
theorem dJ6_bitCount_0f7a4_18 : decode cJ6_bitCount_0f7a4 18 = .ok ((.ldc_w 266), 3) := by decide +kernel
theorem dJ6_bitCount_0f7a4_21 : decode cJ6_bitCount_0f7a4 21 = .ok (.iand, 1) := by decide +kernel
theorem dJ6_bitCount_0f7a4_22 : decode cJ6_bitCount_0f7a4 22 = .ok (.iadd, 1) := by decide +kernel
theorem dJ6_bitCount_0f7a4_23 : decode cJ6_bitCount_0f7a4 23 = .ok ((.istore_n 0), 1) := by decide +kernel
theorem dJ6_bitCount_0f7a4_24 : decode cJ6_bitCount_0f7a4 24 = .ok ((.iload_n 0), 1) := by decide +kernel
theorem dJ6_bitCount_0f7a4_25 : decode cJ6_bitCount_0f7a4 25 = .ok ((.iload_n 0), 1) := by decide +kernel
theorem dJ6_bitCount_0f7a4_26 : decode cJ6_bitCount_0f7a4 26 = .ok ((.iconst 4), 1) := by decide +kernel
theorem dJ6_bitCount_0f7a4_27 : decode cJ6_bitCount_0f7a4 27 = .ok (.iushr, 1) := by decide +kernel
theorem dJ6_bitCount_0f7a4_28 : decode cJ6_bitCount_0f7a4 28 = .ok (.iadd, 1) := by decide +kernel
theorem dJ6_bitCount_0f7a4_29 : decode cJ6_bitCount_0f7a4 29 = .ok ((.ldc_w 267), 3) := by decide +kernel
theorem dJ6_bitCount_0f7a4_32 : decode cJ6_bitCount_0f7a4 32 = .ok (.iand, 1) := by decide +kernel
theorem dJ6_bitCount_0f7a4_33 : decode cJ6_bitCount_0f7a4 33 = .ok ((.istore_n 0), 1) := by decide +kernel
theorem dJ6_bitCount_0f7a4_34 : decode cJ6_bitCount_0f7a4 34 = .ok ((.iload_n 0), 1) := by decide +kernel
theorem dJ6_bitCount_0f7a4_35 : decode cJ6_bitCount_0f7a4 35 = .ok ((.iload_n 0), 1) := by decide +kernel
theorem dJ6_bitCount_0f7a4_36 : decode cJ6_bitCount_0f7a4 36 = .ok ((.bipush 8), 2) := by decide +kernel
theorem dJ6_bitCount_0f7a4_38 : decode cJ6_bitCount_0f7a4 38 = .ok (.iushr, 1) := by decide +kernel
theorem dJ6_bitCount_0f7a4_39 : decode cJ6_bitCount_0f7a4 39 = .ok (.iadd, 1) := by decide +kernel
theorem dJ6_bitCount_0f7a4_40 : decode cJ6_bitCount_0f7a4 40 = .ok ((.istore_n 0), 1) := by decide +kernel
theorem dJ6_bitCount_0f7a4_41 : decode cJ6_bitCount_0f7a4 41 = .ok ((.iload_n 0), 1) := by decide +kernel
theorem dJ6_bitCount_0f7a4_42 : decode cJ6_bitCount_0f7a4 42 = .ok ((.iload_n 0), 1) := by decide +kernel
theorem dJ6_bitCount_0f7a4_43 : decode cJ6_bitCount_0f7a4 43 = .ok ((.bipush 16), 2) := by decide +kernel
theorem dJ6_bitCount_0f7a4_45 : decode cJ6_bitCount_0f7a4 45 = .ok (.iushr, 1) := by decide +kernel
theorem dJ6_bitCount_0f7a4_46 : decode cJ6_bitCount_0f7a4 46 = .ok (.iadd, 1) := by decide +kernel
theorem dJ6_bitCount_0f7a4_47 : decode cJ6_bitCount_0f7a4 47 = .ok ((.istore_n 0), 1) := by decide +kernel
theorem dJ6_bitCount_0f7a4_48 : decode cJ6_bitCount_0f7a4 48 = .ok ((.iload_n 0), 1) := by decide +kernel
theorem dJ6_bitCount_0f7a4_49 : decode cJ6_bitCount_0f7a4 49 = .ok ((.bipush 63), 2) := by decide +kernel
theorem dJ6_bitCount_0f7a4_51 : decode cJ6_bitCount_0f7a4 51 = .ok (.iand, 1) := by decide +kernel
theorem dJ6_bitCount_0f7a4_52 : decode cJ6_bitCount_0f7a4 52 = .ok (.ireturn, 1) := by decide +kernel
def p_J6_bitCount_0f7a4   (S : vSt) (a0 : Int32) (post : Int32 → vSt → Prop) : Prop := ∀ y6 : Int32, y6 = (a0 - ((((Int32.toUInt32 a0) >>> ((Int32.toUInt32 1) &&& Int32.toUInt32 31)).toInt32) &&& 1431655765)) → ∀ y7 : Int32, y7 = ((y6 &&& 858993459) + ((((Int32.toUInt32 y6) >>> ((Int32.toUInt32 2) &&& Int32.toUInt32 31)).toInt32) &&& 858993459)) → ∀ y8 : Int32, y8 = ((y7 + (((Int32.toUInt32 y7) >>> ((Int32.toUInt32 4) &&& Int32.toUInt32 31)).toInt32)) &&& 252645135) → ∀ y9 : Int32, y9 = (y8 + (((Int32.toUInt32 y8) >>> ((Int32.toUInt32 8) &&& Int32.toUInt32 31)).toInt32)) → ∀ y10 : Int32, y10 = (y9 + (((Int32.toUInt32 y9) >>> ((Int32.toUInt32 16) &&& Int32.toUInt32 31)).toInt32)) → post (y10 &&& 63) S
set_option maxHeartbeats 4000000 in
set_option maxRecDepth 100000 in
theorem c_J6_bitCount_0f7a4 (l : Launch) (G : vG)    {S : vSt} (a0 : Int32) (post : Int32 → vSt → Prop) (h : p_J6_bitCount_0f7a4   S a0 post) : Met l yJ6_bitCount_0f7a4 (v_ws yJ6_bitCount_0f7a4 cJ6_bitCount_0f7a4 1 (some .int)) (v_rm 0 40) (v_Pc G [.int a0] S) (v_Qi G post) 0 0 (v_A G) := by
  refine v_start (by decide +kernel) (Nat.le_of_ble_eq_true rfl) (fun X hl C D => ?_)
  subst hl
  have C : v_Cx X G cJ6_bitCount_0f7a4 RJ6 1 (v_rm 0 40) := C
  show VJ X G S 0 [(0, .int a0)] []
  refine V_iload_n C 0 dJ6_bitCount_0f7a4_0 rfl rfl ?_
  refine V_iload_n C 0 dJ6_bitCount_0f7a4_1 rfl rfl ?_
  refine V_iconst (v := 1) C dJ6_bitCount_0f7a4_2 (by decide) ?_
  refine V_iushr C dJ6_bitCount_0f7a4_3 ?_
  refine V_ldcw (v := 1431655765) C k_RJ6_265 dJ6_bitCount_0f7a4_4 ?_
  refine V_iand C dJ6_bitCount_0f7a4_7 ?_
  refine V_isub C dJ6_bitCount_0f7a4_8 ?_
  refine V_topi (fun y6 ey6 => ?_)
  have h := h y6 ey6
  refine V_istore_n (lv' := [(0, .int y6)]) C [0] dJ6_bitCount_0f7a4_9 rfl (by decide) rfl ?_
  refine V_iload_n C 0 dJ6_bitCount_0f7a4_10 rfl rfl ?_
  refine V_ldcw (v := 858993459) C k_RJ6_266 dJ6_bitCount_0f7a4_11 ?_
  refine V_iand C dJ6_bitCount_0f7a4_14 ?_
  refine V_iload_n C 0 dJ6_bitCount_0f7a4_15 rfl rfl ?_
  refine V_iconst (v := 2) C dJ6_bitCount_0f7a4_16 (by decide) ?_
  refine V_iushr C dJ6_bitCount_0f7a4_17 ?_
  refine V_ldcw (v := 858993459) C k_RJ6_266 dJ6_bitCount_0f7a4_18 ?_
  refine V_iand C dJ6_bitCount_0f7a4_21 ?_
  refine V_iadd C dJ6_bitCount_0f7a4_22 ?_
  refine V_topi (fun y7 ey7 => ?_)
  have h := h y7 ey7
  refine V_istore_n (lv' := [(0, .int y7)]) C [0] dJ6_bitCount_0f7a4_23 rfl (by decide) rfl ?_
  refine V_iload_n C 0 dJ6_bitCount_0f7a4_24 rfl rfl ?_
  refine V_iload_n C 0 dJ6_bitCount_0f7a4_25 rfl rfl ?_
  refine V_iconst (v := 4) C dJ6_bitCount_0f7a4_26 (by decide) ?_
  refine V_iushr C dJ6_bitCount_0f7a4_27 ?_
  refine V_iadd C dJ6_bitCount_0f7a4_28 ?_
  refine V_ldcw (v := 252645135) C k_RJ6_267 dJ6_bitCount_0f7a4_29 ?_
  refine V_iand C dJ6_bitCount_0f7a4_32 ?_
  refine V_topi (fun y8 ey8 => ?_)
  have h := h y8 ey8
  refine V_istore_n (lv' := [(0, .int y8)]) C [0] dJ6_bitCount_0f7a4_33 rfl (by decide) rfl ?_
  refine V_iload_n C 0 dJ6_bitCount_0f7a4_34 rfl rfl ?_
  refine V_iload_n C 0 dJ6_bitCount_0f7a4_35 rfl rfl ?_
  refine V_bipush (v := 8) C dJ6_bitCount_0f7a4_36 (by decide) ?_
  refine V_iushr C dJ6_bitCount_0f7a4_38 ?_
  refine V_iadd C dJ6_bitCount_0f7a4_39 ?_
  refine V_topi (fun y9 ey9 => ?_)
  have h := h y9 ey9
  refine V_istore_n (lv' := [(0, .int y9)]) C [0] dJ6_bitCount_0f7a4_40 rfl (by decide) rfl ?_
  refine V_iload_n C 0 dJ6_bitCount_0f7a4_41 rfl rfl ?_
  refine V_iload_n C 0 dJ6_bitCount_0f7a4_42 rfl rfl ?_
  refine V_bipush (v := 16) C dJ6_bitCount_0f7a4_43 (by decide) ?_
  refine V_iushr C dJ6_bitCount_0f7a4_45 ?_
  refine V_iadd C dJ6_bitCount_0f7a4_46 ?_
  refine V_topi (fun y10 ey10 => ?_)
  have h := h y10 ey10
  refine V_istore_n (lv' := [(0, .int y10)]) C [0] dJ6_bitCount_0f7a4_47 rfl (by decide) rfl ?_
  refine V_iload_n C 0 dJ6_bitCount_0f7a4_48 rfl rfl ?_
  refine V_bipush (v := 63) C dJ6_bitCount_0f7a4_49 (by decide) ?_
  refine V_iand C dJ6_bitCount_0f7a4_51 ?_
  exact V_iret C D dJ6_bitCount_0f7a4_52 h
/-! HalfAccuser$Games.leavers(I)I -/
theorem dX2_leavers_0 : decode cX2_leavers 0 = .ok ((.aload_n 0), 1) := by decide +kernel
theorem dX2_leavers_1 : decode cX2_leavers 1 = .ok ((.iload_n 1), 1) := by decide +kernel
theorem dX2_leavers_2 : decode cX2_leavers 2 = .ok ((.invokevirtual 100), 3) := by decide +kernel
theorem dX2_leavers_5 : decode cX2_leavers 5 = .ok ((.lstore_n 2), 1) := by decide +kernel
theorem dX2_leavers_6 : decode cX2_leavers 6 = .ok ((.iload_n 1), 1) := by decide +kernel
theorem dX2_leavers_7 : decode cX2_leavers 7 = .ok ((.invokestatic 103), 3) := by decide +kernel
theorem dX2_leavers_10 : decode cX2_leavers 10 = .ok ((.istore 4), 2) := by decide +kernel
theorem dX2_leavers_12 : decode cX2_leavers 12 = .ok ((.iconst 0), 1) := by decide +kernel
theorem dX2_leavers_13 : decode cX2_leavers 13 = .ok ((.istore 5), 2) := by decide +kernel
theorem dX2_leavers_15 : decode cX2_leavers 15 = .ok ((.iconst 0), 1) := by decide +kernel
theorem dX2_leavers_16 : decode cX2_leavers 16 = .ok ((.istore 6), 2) := by decide +kernel
theorem dX2_leavers_18 : decode cX2_leavers 18 = .ok ((.iload 6), 2) := by decide +kernel
theorem dX2_leavers_20 : decode cX2_leavers 20 = .ok ((.aload_n 0), 1) := by decide +kernel
theorem dX2_leavers_21 : decode cX2_leavers 21 = .ok ((.getfield 22), 3) := by decide +kernel
theorem dX2_leavers_24 : decode cX2_leavers 24 = .ok ((.getfield 89), 3) := by decide +kernel
theorem dX2_leavers_27 : decode cX2_leavers 27 = .ok ((.if_icmp .ge 45), 3) := by decide +kernel
theorem dX2_leavers_30 : decode cX2_leavers 30 = .ok ((.iload_n 1), 1) := by decide +kernel
theorem dX2_leavers_31 : decode cX2_leavers 31 = .ok ((.iload 6), 2) := by decide +kernel
theorem dX2_leavers_33 : decode cX2_leavers 33 = .ok ((.invokestatic 70), 3) := by decide +kernel
theorem dX2_leavers_36 : decode cX2_leavers 36 = .ok ((.ifCond .eq 30), 3) := by decide +kernel
theorem dX2_leavers_39 : decode cX2_leavers 39 = .ok ((.aload_n 0), 1) := by decide +kernel
theorem dX2_leavers_40 : decode cX2_leavers 40 = .ok ((.getfield 19), 3) := by decide +kernel
theorem dX2_leavers_43 : decode cX2_leavers 43 = .ok ((.iload 6), 2) := by decide +kernel
theorem dX2_leavers_45 : decode cX2_leavers 45 = .ok ((.invokestatic 73), 3) := by decide +kernel
theorem dX2_leavers_48 : decode cX2_leavers 48 = .ok ((.iload 4), 2) := by decide +kernel
theorem dX2_leavers_50 : decode cX2_leavers 50 = .ok (.i2l, 1) := by decide +kernel
theorem dX2_leavers_51 : decode cX2_leavers 51 = .ok (.lmul, 1) := by decide +kernel
theorem dX2_leavers_52 : decode cX2_leavers 52 = .ok ((.lload_n 2), 1) := by decide +kernel
theorem dX2_leavers_53 : decode cX2_leavers 53 = .ok (.lcmp, 1) := by decide +kernel
theorem dX2_leavers_54 : decode cX2_leavers 54 = .ok ((.ifCond .ge 12), 3) := by decide +kernel
theorem dX2_leavers_57 : decode cX2_leavers 57 = .ok ((.iload 5), 2) := by decide +kernel
theorem dX2_leavers_59 : decode cX2_leavers 59 = .ok ((.iconst 1), 1) := by decide +kernel
theorem dX2_leavers_60 : decode cX2_leavers 60 = .ok ((.iload 6), 2) := by decide +kernel
theorem dX2_leavers_62 : decode cX2_leavers 62 = .ok (.ishl, 1) := by decide +kernel
theorem dX2_leavers_63 : decode cX2_leavers 63 = .ok (.ior, 1) := by decide +kernel
theorem dX2_leavers_64 : decode cX2_leavers 64 = .ok ((.istore 5), 2) := by decide +kernel
theorem dX2_leavers_66 : decode cX2_leavers 66 = .ok ((.iinc 6 1), 3) := by decide +kernel
theorem dX2_leavers_69 : decode cX2_leavers 69 = .ok ((.goto (-51)), 3) := by decide +kernel
theorem dX2_leavers_72 : decode cX2_leavers 72 = .ok ((.iload 5), 2) := by decide +kernel
theorem dX2_leavers_74 : decode cX2_leavers 74 = .ok (.ireturn, 1) := by decide +kernel
def p_X2_leavers_66  (a1 : Int32)  (K18 : vSt → Int64 → Int32 → Int32 → Int32 → Prop) (post : Int32 → vSt → Prop) (S : vSt) (x2 : Int64) (x4 : Int32) (x5 : Int32) (x6 : Int32) : Prop := ∀ y23 : Int32, y23 = x6 + 1 → K18 S x2 x4 x5 y23
def p_X2_leavers_18  (a1 : Int32)   (post : Int32 → vSt → Prop) : Nat → vSt → Int64 → Int32 → Int32 → Int32 → Prop
  | 0 => fun _ _ _ _ _ => False
  | fu18 + 1 => fun S x2 x4 x5 x6 => (((S.1 10 15) ≤ x6 → post x5 S) ∧ (¬ (S.1 10 15) ≤ x6 → p_X10_isIn  S a1 x6 (fun r22 S21 => ((r22 = false → p_X2_leavers_66 a1 (p_X2_leavers_18 a1 post fu18) post S21 x2 x4 x5 x6) ∧ (r22 = true → p_X10_at_ 71 8 S21 x6 (fun r24 S23 => ((x2 ≤ (r24 * (Int32.toInt64 x4)) → p_X2_leavers_66 a1 (p_X2_leavers_18 a1 post fu18) post S23 x2 x4 x5 x6) ∧ (¬ x2 ≤ (r24 * (Int32.toInt64 x4)) → ∀ y25 : Int32, y25 = (x5 ||| ((1 : Int32) <<< (x6 &&& 31))) → p_X2_leavers_66 a1 (p_X2_leavers_18 a1 post fu18) post S23 x2 x4 y25 x6))))))))
theorem e_X2_leavers_18  (a1 : Int32)   (post : Int32 → vSt → Prop) (fu18 : Nat) (S : vSt) (x2 : Int64) (x4 : Int32) (x5 : Int32) (x6 : Int32) : p_X2_leavers_18 a1 post (fu18 + 1) S x2 x4 x5 x6 = ((((S.1 10 15) ≤ x6 → post x5 S) ∧ (¬ (S.1 10 15) ≤ x6 → p_X10_isIn  S a1 x6 (fun r22 S21 => ((r22 = false → p_X2_leavers_66 a1 (p_X2_leavers_18 a1 post fu18) post S21 x2 x4 x5 x6) ∧ (r22 = true → p_X10_at_ 71 8 S21 x6 (fun r24 S23 => ((x2 ≤ (r24 * (Int32.toInt64 x4)) → p_X2_leavers_66 a1 (p_X2_leavers_18 a1 post fu18) post S23 x2 x4 x5 x6) ∧ (¬ x2 ≤ (r24 * (Int32.toInt64 x4)) → ∀ y25 : Int32, y25 = (x5 ||| ((1 : Int32) <<< (x6 &&& 31))) → p_X2_leavers_66 a1 (p_X2_leavers_18 a1 post fu18) post S23 x2 x4 y25 x6))))))))) := rfl
def p_X2_leavers   (S : vSt) (a1 : Int32) (post : Int32 → vSt → Prop) : Prop := p_X2_sumOfDreads  S a1 (fun r18 S17 => p_J6_bitCount_0f7a4  S17 a1 (fun r20 S19 => ∃ fu18, p_X2_leavers_18 a1 post fu18 S19 r18 r20 0 0))
set_option maxHeartbeats 4000000 in
set_option maxRecDepth 100000 in
theorem q_X2_leavers_66 {X : vX} {G : vG}  {post : Int32 → vSt → Prop} (C : v_Cx X G cX2_leavers RX2 7 (v_rm 2 85)) (D : v_Rx X G (v_Qi G post) (some .int))  {a1 : Int32}  {K18 : vSt → Int64 → Int32 → Int32 → Int32 → Prop} (hK18 : ∀ S x2 x4 x5 x6, K18 S x2 x4 x5 x6 → VJ X G S 18 [(0, .ref (G.1 68)), (1, .int a1), (2, .long x2), (4, .int x4), (5, .int x5), (6, .int x6)] []) : ∀ (S : vSt) (x2 : Int64) (x4 : Int32) (x5 : Int32) (x6 : Int32), p_X2_leavers_66 a1 K18 post S x2 x4 x5 x6 → VJ X G S 66 [(0, .ref (G.1 68)), (1, .int a1), (2, .long x2), (4, .int x4), (5, .int x5), (6, .int x6)] [] := by
  intro S x2 x4 x5 x6 h
  obtain ⟨y23, ey23⟩ : ∃ z : Int32, z = x6 + 1 := ⟨_, rfl⟩
  have h := h y23 ey23
  refine V_iinc (lv' := [(0, .ref (G.1 68)), (1, .int a1), (2, .long x2), (4, .int x4), (5, .int x5), (6, .int y23)]) C 5 [1, 2, 3, 4, 5, 0] y23 dX2_leavers_66 rfl (by rw [ey23]; rfl) (by decide) rfl ?_
  refine V_goto (tgt := 18) C dX2_leavers_69 (by decide) ?_
  exact hK18 _ _ _ _ _ h
set_option maxHeartbeats 4000000 in
set_option maxRecDepth 100000 in
theorem q_X2_leavers_18 {X : vX} {G : vG}  {post : Int32 → vSt → Prop} (C : v_Cx X G cX2_leavers RX2 7 (v_rm 2 85)) (D : v_Rx X G (v_Qi G post) (some .int))  {a1 : Int32}   : ∀ (fu : Nat) (S : vSt) (x2 : Int64) (x4 : Int32) (x5 : Int32) (x6 : Int32), p_X2_leavers_18 a1 post fu S x2 x4 x5 x6 → VJ X G S 18 [(0, .ref (G.1 68)), (1, .int a1), (2, .long x2), (4, .int x4), (5, .int x5), (6, .int x6)] [] := by
  intro fu
  induction fu with
  | zero => intro S x2 x4 x5 x6 h; exact absurd h id
  | succ fu ih =>
    intro S x2 x4 x5 x6 h
    have hK18 := ih
    rw [e_X2_leavers_18] at h
    refine V_iload C 5 dX2_leavers_18 rfl ?_
    refine V_aload_n C 0 dX2_leavers_20 rfl rfl ?_
    refine V_ga C 68 (by decide) (by decide) F_2_0 k_RX2_22 dX2_leavers_21 ?_
    refine V_gi C 10 (by decide) (by decide) F_0_15 k_RX2_89 dX2_leavers_24 ?_
    refine V_icmp_ge (tgt := 72) C dX2_leavers_27 (by decide) (fun c => ?_) (fun c => ?_)
    · have h := h.1 c
      refine V_iload C 4 dX2_leavers_72 rfl ?_
      exact V_iret C D dX2_leavers_74 h
    · have h := h.2 c
      refine V_iload_n C 1 dX2_leavers_30 rfl rfl ?_
      refine V_iload C 5 dX2_leavers_31 rfl ?_
      refine V_callSNz (As := [.int a1, .int x6]) (rest := []) C (c_X10_isIn (v_l X) G  _ _ _ h) KV_X10_isIn (List.mem_of_getElem? (i := 17) rfl) rfl rfl rfl (Nat.le_of_ble_eq_true rfl) ⟨Nat.le_of_ble_eq_true rfl, Nat.le_of_ble_eq_true rfl⟩ dX2_leavers_33 (fun r22 S21 h => ?_)
      refine V_ifb_eq (tgt := 66) C dX2_leavers_36 (by decide) (fun c => ?_) (fun c => ?_)
      · have h := h.1 c
        exact q_X2_leavers_66 C D hK18 _ _ _ _ _ h
      · have h := h.2 c
        refine V_aload_n C 0 dX2_leavers_39 rfl rfl ?_
        refine V_ga C 68 (by decide) (by decide) F_2_4 k_RX2_19 dX2_leavers_40 ?_
        refine V_iload C 5 dX2_leavers_43 rfl ?_
        refine V_callSNl (As := [.ref (G.1 71), .int x6]) (rest := []) C (c_X10_at_ (v_l X) G (by decide) (by decide) _ _ h) KV_X10_at_ (List.mem_of_getElem? (i := 18) rfl) rfl rfl rfl (Nat.le_of_ble_eq_true rfl) ⟨Nat.le_of_ble_eq_true rfl, Nat.le_of_ble_eq_true rfl⟩ dX2_leavers_45 (fun r24 S23 h => ?_)
        refine V_iload C 3 dX2_leavers_48 rfl ?_
        refine V_i2l C dX2_leavers_50 ?_
        refine V_lmul C dX2_leavers_51 ?_
        refine V_lload_n C 2 dX2_leavers_52 rfl rfl ?_
        refine V_lcmp_ge (tgt := 66) C dX2_leavers_53 dX2_leavers_54 (by decide) (fun c => ?_) (fun c => ?_)
        · have h := h.1 c
          exact q_X2_leavers_66 C D hK18 _ _ _ _ _ h
        · have h := h.2 c
          refine V_iload C 4 dX2_leavers_57 rfl ?_
          refine V_iconst (v := 1) C dX2_leavers_59 (by decide) ?_
          refine V_iload C 5 dX2_leavers_60 rfl ?_
          refine V_ishl C dX2_leavers_62 ?_
          refine V_ior C dX2_leavers_63 ?_
          refine V_topi (fun y25 ey25 => ?_)
          have h := h y25 ey25
          refine V_istore (lv' := [(0, .ref (G.1 68)), (1, .int a1), (2, .long x2), (4, .int x4), (5, .int y25), (6, .int x6)]) C [1, 2, 3, 4, 0, 5] dX2_leavers_64 (by decide) rfl ?_
          exact q_X2_leavers_66 C D hK18 _ _ _ _ _ h
set_option maxHeartbeats 4000000 in
set_option maxRecDepth 100000 in
theorem c_X2_leavers (l : Launch) (G : vG)    {S : vSt} (a1 : Int32) (post : Int32 → vSt → Prop) (h : p_X2_leavers   S a1 post) : Met l yX2_leavers (v_ws yX2_leavers cX2_leavers 7 (some .int)) (v_rm 2 85) (v_Pc G [.ref (G.1 68), .int a1] S) (v_Qi G post) 0 0 (v_A G) := by
  refine v_start (by decide +kernel) (Nat.le_of_ble_eq_true rfl) (fun X hl C D => ?_)
  subst hl
  have C : v_Cx X G cX2_leavers RX2 7 (v_rm 2 85) := C
  show VJ X G S 0 [(0, .ref (G.1 68)), (1, .int a1)] []
  refine V_aload_n C 0 dX2_leavers_0 rfl rfl ?_
  refine V_iload_n C 1 dX2_leavers_1 rfl rfl ?_
  refine V_callVl (As := [.int a1]) (rest := []) C (c_X2_sumOfDreads (v_l X) G  _ _ h) 68 2 (by decide) (by decide) (by decide) rfl KV_X2_sumOfDreads k_RX2_100 rfl rfl rfl (Nat.le_of_ble_eq_true rfl) ⟨Nat.le_of_ble_eq_true rfl, Nat.le_of_ble_eq_true rfl⟩ dX2_leavers_2 (fun r18 S17 h => ?_)
  refine V_lstore_n (lv' := [(0, .ref (G.1 68)), (1, .int a1), (2, .long r18)]) C [1, 2, 0] dX2_leavers_5 rfl (by decide) rfl ?_
  refine V_iload_n C 1 dX2_leavers_6 rfl rfl ?_
  refine V_callSi (As := [.int a1]) (rest := []) C (c_J6_bitCount_0f7a4 (v_l X) G  _ _ h) KV_J6_bitCount_0f7a4 k_RX2_103 rfl rfl rfl (Nat.le_of_ble_eq_true rfl) ⟨Nat.le_of_ble_eq_true rfl, Nat.le_of_ble_eq_true rfl⟩ dX2_leavers_7 (fun r20 S19 h => ?_)
  refine V_istore (lv' := [(0, .ref (G.1 68)), (1, .int a1), (2, .long r18), (4, .int r20)]) C [1, 2, 3, 0] dX2_leavers_10 (by decide) rfl ?_
  refine V_iconst (v := 0) C dX2_leavers_12 (by decide) ?_
  refine V_istore (lv' := [(0, .ref (G.1 68)), (1, .int a1), (2, .long r18), (4, .int r20), (5, .int 0)]) C [1, 2, 3, 4, 0] dX2_leavers_13 (by decide) rfl ?_
  refine V_iconst (v := 0) C dX2_leavers_15 (by decide) ?_
  refine V_istore (lv' := [(0, .ref (G.1 68)), (1, .int a1), (2, .long r18), (4, .int r20), (5, .int 0), (6, .int 0)]) C [1, 2, 3, 4, 5, 0] dX2_leavers_16 (by decide) rfl ?_
  obtain ⟨fu18, h⟩ := h
  exact q_X2_leavers_18 C D  fu18 _ _ _ _ _ h
/-! HalfAccuser$Games.stayers(I)I -/
theorem dX2_stayers_0 : decode cX2_stayers 0 = .ok ((.iload_n 1), 1) := by decide +kernel
theorem dX2_stayers_1 : decode cX2_stayers 1 = .ok ((.istore_n 2), 1) := by decide +kernel
theorem dX2_stayers_2 : decode cX2_stayers 2 = .ok ((.iconst 0), 1) := by decide +kernel
theorem dX2_stayers_3 : decode cX2_stayers 3 = .ok ((.istore_n 3), 1) := by decide +kernel
theorem dX2_stayers_4 : decode cX2_stayers 4 = .ok ((.iload_n 3), 1) := by decide +kernel
theorem dX2_stayers_5 : decode cX2_stayers 5 = .ok ((.bipush 8), 2) := by decide +kernel
theorem dX2_stayers_7 : decode cX2_stayers 7 = .ok ((.if_icmp .gt 30), 3) := by decide +kernel
theorem dX2_stayers_10 : decode cX2_stayers 10 = .ok ((.aload_n 0), 1) := by decide +kernel
theorem dX2_stayers_11 : decode cX2_stayers 11 = .ok ((.iload_n 2), 1) := by decide +kernel
theorem dX2_stayers_12 : decode cX2_stayers 12 = .ok ((.invokevirtual 96), 3) := by decide +kernel
theorem dX2_stayers_15 : decode cX2_stayers 15 = .ok ((.istore 4), 2) := by decide +kernel
theorem dX2_stayers_17 : decode cX2_stayers 17 = .ok ((.iload 4), 2) := by decide +kernel
theorem dX2_stayers_19 : decode cX2_stayers 19 = .ok ((.ifCond .ne 5), 3) := by decide +kernel
theorem dX2_stayers_22 : decode cX2_stayers 22 = .ok ((.iload_n 2), 1) := by decide +kernel
theorem dX2_stayers_23 : decode cX2_stayers 23 = .ok (.ireturn, 1) := by decide +kernel
theorem dX2_stayers_24 : decode cX2_stayers 24 = .ok ((.iload_n 2), 1) := by decide +kernel
theorem dX2_stayers_25 : decode cX2_stayers 25 = .ok ((.iload 4), 2) := by decide +kernel
theorem dX2_stayers_27 : decode cX2_stayers 27 = .ok ((.iconst (-1)), 1) := by decide +kernel
theorem dX2_stayers_28 : decode cX2_stayers 28 = .ok (.ixor, 1) := by decide +kernel
theorem dX2_stayers_29 : decode cX2_stayers 29 = .ok (.iand, 1) := by decide +kernel
theorem dX2_stayers_30 : decode cX2_stayers 30 = .ok ((.istore_n 2), 1) := by decide +kernel
theorem dX2_stayers_31 : decode cX2_stayers 31 = .ok ((.iinc 3 1), 3) := by decide +kernel
theorem dX2_stayers_34 : decode cX2_stayers 34 = .ok ((.goto (-30)), 3) := by decide +kernel
theorem dX2_stayers_37 : decode cX2_stayers 37 = .ok ((.iload_n 2), 1) := by decide +kernel
theorem dX2_stayers_38 : decode cX2_stayers 38 = .ok (.ireturn, 1) := by decide +kernel
def p_X2_stayers_4  (a1 : Int32)   (post : Int32 → vSt → Prop) : Nat → vSt → Int32 → Int32 → Prop
  | 0 => fun _ _ _ => False
  | fu4 + 1 => fun S x2 x3 => ((8 < x3 → post x2 S) ∧ (¬ 8 < x3 → p_X2_leavers  S x2 (fun r10 S9 => ((¬ r10 = 0 → ∀ y11 : Int32, y11 = (x2 &&& (r10 ^^^ (-1))) → ∀ y12 : Int32, y12 = x3 + 1 → (p_X2_stayers_4 a1 post fu4) S9 y11 y12) ∧ (r10 = 0 → post x2 S9)))))
theorem e_X2_stayers_4  (a1 : Int32)   (post : Int32 → vSt → Prop) (fu4 : Nat) (S : vSt) (x2 : Int32) (x3 : Int32) : p_X2_stayers_4 a1 post (fu4 + 1) S x2 x3 = (((8 < x3 → post x2 S) ∧ (¬ 8 < x3 → p_X2_leavers  S x2 (fun r10 S9 => ((¬ r10 = 0 → ∀ y11 : Int32, y11 = (x2 &&& (r10 ^^^ (-1))) → ∀ y12 : Int32, y12 = x3 + 1 → (p_X2_stayers_4 a1 post fu4) S9 y11 y12) ∧ (r10 = 0 → post x2 S9)))))) := rfl
def p_X2_stayers   (S : vSt) (a1 : Int32) (post : Int32 → vSt → Prop) : Prop := ∃ fu4, p_X2_stayers_4 a1 post fu4 S a1 0
set_option maxHeartbeats 4000000 in
set_option maxRecDepth 100000 in
theorem q_X2_stayers_4 {X : vX} {G : vG}  {post : Int32 → vSt → Prop} (C : v_Cx X G cX2_stayers RX2 5 (v_rm 3 111)) (D : v_Rx X G (v_Qi G post) (some .int))  {a1 : Int32}   : ∀ (fu : Nat) (S : vSt) (x2 : Int32) (x3 : Int32), p_X2_stayers_4 a1 post fu S x2 x3 → VJ X G S 4 [(0, .ref (G.1 68)), (2, .int x2), (3, .int x3)] [] := by
  intro fu
  induction fu with
  | zero => intro S x2 x3 h; exact absurd h id
  | succ fu ih =>
    intro S x2 x3 h
    have hK4 := ih
    rw [e_X2_stayers_4] at h
    refine V_iload_n C 2 dX2_stayers_4 rfl rfl ?_
    refine V_bipush (v := 8) C dX2_stayers_5 (by decide) ?_
    refine V_icmp_gt (tgt := 37) C dX2_stayers_7 (by decide) (fun c => ?_) (fun c => ?_)
    · have h := h.1 c
      refine V_iload_n C 1 dX2_stayers_37 rfl rfl ?_
      exact V_iret C D dX2_stayers_38 h
    · have h := h.2 c
      refine V_aload_n C 0 dX2_stayers_10 rfl rfl ?_
      refine V_iload_n C 1 dX2_stayers_11 rfl rfl ?_
      refine V_callVi (As := [.int x2]) (rest := []) C (c_X2_leavers (v_l X) G  _ _ h) 68 2 (by decide) (by decide) (by decide) rfl KV_X2_leavers k_RX2_96 rfl rfl rfl (Nat.le_of_ble_eq_true rfl) ⟨Nat.le_of_ble_eq_true rfl, Nat.le_of_ble_eq_true rfl⟩ dX2_stayers_12 (fun r10 S9 h => ?_)
      refine V_istore (lv' := [(0, .ref (G.1 68)), (2, .int x2), (3, .int x3), (4, .int r10)]) C [1, 2, 3, 0] dX2_stayers_15 (by decide) rfl ?_
      refine V_iload C 3 dX2_stayers_17 rfl ?_
      refine V_if_ne (tgt := 24) C dX2_stayers_19 (by decide) (fun c => ?_) (fun c => ?_)
      · have h := h.1 c
        refine V_iload_n C 1 dX2_stayers_24 rfl rfl ?_
        refine V_iload C 3 dX2_stayers_25 rfl ?_
        refine V_iconst (v := (-1)) C dX2_stayers_27 (by decide) ?_
        refine V_ixor C dX2_stayers_28 ?_
        refine V_iand C dX2_stayers_29 ?_
        refine V_topi (fun y11 ey11 => ?_)
        have h := h y11 ey11
        refine V_istore_n (lv' := [(0, .ref (G.1 68)), (2, .int y11), (3, .int x3), (4, .int r10)]) C [1, 0, 2, 3] dX2_stayers_30 rfl (by decide) rfl ?_
        obtain ⟨y12, ey12⟩ : ∃ z : Int32, z = x3 + 1 := ⟨_, rfl⟩
        have h := h y12 ey12
        refine V_iinc (lv' := [(0, .ref (G.1 68)), (2, .int y11), (3, .int y12), (4, .int r10)]) C 2 [1, 2, 0, 3] y12 dX2_stayers_31 rfl (by rw [ey12]; rfl) (by decide) rfl ?_
        refine V_goto (tgt := 4) C dX2_stayers_34 (by decide) ?_
        refine V_loc (lv' := [(0, .ref (G.1 68)), (2, .int y11), (3, .int y12)]) [0, 1, 2] rfl ?_
        exact hK4 _ _ _ h
      · have h := h.2 c
        refine V_iload_n C 1 dX2_stayers_22 rfl rfl ?_
        exact V_iret C D dX2_stayers_23 h
set_option maxHeartbeats 4000000 in
set_option maxRecDepth 100000 in
theorem c_X2_stayers (l : Launch) (G : vG)    {S : vSt} (a1 : Int32) (post : Int32 → vSt → Prop) (h : p_X2_stayers   S a1 post) : Met l yX2_stayers (v_ws yX2_stayers cX2_stayers 5 (some .int)) (v_rm 3 111) (v_Pc G [.ref (G.1 68), .int a1] S) (v_Qi G post) 0 0 (v_A G) := by
  refine v_start (by decide +kernel) (Nat.le_of_ble_eq_true rfl) (fun X hl C D => ?_)
  subst hl
  have C : v_Cx X G cX2_stayers RX2 5 (v_rm 3 111) := C
  show VJ X G S 0 [(0, .ref (G.1 68)), (1, .int a1)] []
  refine V_iload_n C 1 dX2_stayers_0 rfl rfl ?_
  refine V_istore_n (lv' := [(0, .ref (G.1 68)), (1, .int a1), (2, .int a1)]) C [1, 2, 0] dX2_stayers_1 rfl (by decide) rfl ?_
  refine V_iconst (v := 0) C dX2_stayers_2 (by decide) ?_
  refine V_istore_n (lv' := [(0, .ref (G.1 68)), (1, .int a1), (2, .int a1), (3, .int 0)]) C [1, 2, 3, 0] dX2_stayers_3 rfl (by decide) rfl ?_
  refine V_loc (lv' := [(0, .ref (G.1 68)), (2, .int a1), (3, .int 0)]) [0, 2, 3] rfl ?_
  obtain ⟨fu4, h⟩ := h
  exact q_X2_stayers_4 C D  fu4 _ _ _ h
/-! HalfAccuser$Hopes.whole()J -/
theorem dX3_whole_0 : decode cX3_whole 0 = .ok ((.lconst 1), 1) := by decide +kernel
theorem dX3_whole_1 : decode cX3_whole 1 = .ok ((.iconst 4), 1) := by decide +kernel
theorem dX3_whole_2 : decode cX3_whole 2 = .ok ((.aload_n 0), 1) := by decide +kernel
theorem dX3_whole_3 : decode cX3_whole 3 = .ok ((.getfield 40), 3) := by decide +kernel
theorem dX3_whole_6 : decode cX3_whole 6 = .ok ((.iconst 0), 1) := by decide +kernel
theorem dX3_whole_7 : decode cX3_whole 7 = .ok ((.invokevirtual 44), 3) := by decide +kernel
theorem dX3_whole_10 : decode cX3_whole 10 = .ok (.imul, 1) := by decide +kernel
theorem dX3_whole_11 : decode cX3_whole 11 = .ok (.lshl, 1) := by decide +kernel
theorem dX3_whole_12 : decode cX3_whole 12 = .ok (.lreturn, 1) := by decide +kernel
def p_X3_whole   (S : vSt)  (post : Int64 → vSt → Prop) : Prop := p_X0_ruleOf 10 S 0 (fun r4 S3 => post (1 <<< ((Int32.toInt64 (4 * r4)) &&& 63)) S3)
set_option maxHeartbeats 4000000 in
set_option maxRecDepth 100000 in
theorem c_X3_whole (l : Launch) (G : vG)    {S : vSt}  (post : Int64 → vSt → Prop) (h : p_X3_whole   S  post) : Met l yX3_whole (v_ws yX3_whole cX3_whole 1 (some .long)) (v_rm 2 82) (v_Pc G [.ref (G.1 58)] S) (v_Ql G post) 0 0 (v_A G) := by
  refine v_start (by decide +kernel) (Nat.le_of_ble_eq_true rfl) (fun X hl C D => ?_)
  subst hl
  have C : v_Cx X G cX3_whole RX3 1 (v_rm 2 82) := C
  show VJ X G S 0 [(0, .ref (G.1 58))] []
  refine V_lconst (v := 1) C dX3_whole_0 (by decide) ?_
  refine V_iconst (v := 4) C dX3_whole_1 (by decide) ?_
  refine V_aload_n C 0 dX3_whole_2 rfl rfl ?_
  refine V_ga C 58 (by decide) (by decide) F_3_0 k_RX3_40 dX3_whole_3 ?_
  refine V_iconst (v := 0) C dX3_whole_6 (by decide) ?_
  refine V_callVi (As := [.int 0]) (rest := [.int 4, .long 1]) C (c_X0_ruleOf (v_l X) G v_i10 _ _ h) 10 0 (by decide) (by decide) (by decide) rfl KV_X0_ruleOf k_RX3_44 rfl rfl rfl (Nat.le_of_ble_eq_true rfl) ⟨Nat.le_of_ble_eq_true rfl, Nat.le_of_ble_eq_true rfl⟩ dX3_whole_7 (fun r4 S3 h => ?_)
  refine V_imul C dX3_whole_10 ?_
  refine V_lshl C dX3_whole_11 ?_
  exact V_lret C D dX3_whole_12 h
/-! java/util/Arrays.fill([JJ)V -/
theorem dJ7_fill_d0a16_0 : decode cJ7_fill_d0a16 0 = .ok ((.iconst 0), 1) := by decide +kernel
theorem dJ7_fill_d0a16_1 : decode cJ7_fill_d0a16 1 = .ok ((.istore_n 3), 1) := by decide +kernel
theorem dJ7_fill_d0a16_2 : decode cJ7_fill_d0a16 2 = .ok ((.aload_n 0), 1) := by decide +kernel
theorem dJ7_fill_d0a16_3 : decode cJ7_fill_d0a16 3 = .ok (.arraylength, 1) := by decide +kernel
theorem dJ7_fill_d0a16_4 : decode cJ7_fill_d0a16 4 = .ok ((.istore 4), 2) := by decide +kernel
theorem dJ7_fill_d0a16_6 : decode cJ7_fill_d0a16 6 = .ok ((.iload_n 3), 1) := by decide +kernel
theorem dJ7_fill_d0a16_7 : decode cJ7_fill_d0a16 7 = .ok ((.iload 4), 2) := by decide +kernel
theorem dJ7_fill_d0a16_9 : decode cJ7_fill_d0a16 9 = .ok ((.if_icmp .ge 13), 3) := by decide +kernel
theorem dJ7_fill_d0a16_12 : decode cJ7_fill_d0a16 12 = .ok ((.aload_n 0), 1) := by decide +kernel
theorem dJ7_fill_d0a16_13 : decode cJ7_fill_d0a16 13 = .ok ((.iload_n 3), 1) := by decide +kernel
theorem dJ7_fill_d0a16_14 : decode cJ7_fill_d0a16 14 = .ok ((.lload_n 1), 1) := by decide +kernel
theorem dJ7_fill_d0a16_15 : decode cJ7_fill_d0a16 15 = .ok (.lastore, 1) := by decide +kernel
theorem dJ7_fill_d0a16_16 : decode cJ7_fill_d0a16 16 = .ok ((.iinc 3 1), 3) := by decide +kernel
theorem dJ7_fill_d0a16_19 : decode cJ7_fill_d0a16 19 = .ok ((.goto (-13)), 3) := by decide +kernel
theorem dJ7_fill_d0a16_22 : decode cJ7_fill_d0a16 22 = .ok (.return_, 1) := by decide +kernel
def p_J7_fill_d0a16_6 (k0 n0 : Nat) (a1 : Int64)   (post : vSt → Prop) : Nat → vSt → Int32 → Int32 → Prop
  | 0 => fun _ _ _ => False
  | fu6 + 1 => fun S x3 x4 => ((x4 ≤ x3 → post S) ∧ (¬ x4 ≤ x3 → (vp_in x3 n0 ∧ ∀ S7, S7 = v_sl S k0 (Int32.toNatClampNeg x3) a1 → ∀ y8 : Int32, y8 = x3 + 1 → (p_J7_fill_d0a16_6 k0 n0 a1 post fu6) S7 y8 x4)))
theorem e_J7_fill_d0a16_6 (k0 n0 : Nat) (a1 : Int64)   (post : vSt → Prop) (fu6 : Nat) (S : vSt) (x3 : Int32) (x4 : Int32) : p_J7_fill_d0a16_6 k0 n0 a1 post (fu6 + 1) S x3 x4 = (((x4 ≤ x3 → post S) ∧ (¬ x4 ≤ x3 → (vp_in x3 n0 ∧ ∀ S7, S7 = v_sl S k0 (Int32.toNatClampNeg x3) a1 → ∀ y8 : Int32, y8 = x3 + 1 → (p_J7_fill_d0a16_6 k0 n0 a1 post fu6) S7 y8 x4)))) := rfl
def p_J7_fill_d0a16 (k0 n0 : Nat)  (S : vSt) (a1 : Int64) (post : vSt → Prop) : Prop := ∀ y6 : Int32, y6 = (Int32.ofNat n0) → ∃ fu6, p_J7_fill_d0a16_6 k0 n0 a1 post fu6 S 0 y6
set_option maxHeartbeats 4000000 in
set_option maxRecDepth 100000 in
theorem q_J7_fill_d0a16_6 {X : vX} {G : vG}  {post : vSt → Prop} (C : v_Cx X G cJ7_fill_d0a16 RJ7 5 (v_rm 0 40)) (D : v_Rx X G (v_Qv G post) none) {k0 n0 : Nat} (hk0 : k0 < 145) (hs0 : v_sh k0 = (14, n0)) {a1 : Int64}   : ∀ (fu : Nat) (S : vSt) (x3 : Int32) (x4 : Int32), p_J7_fill_d0a16_6 k0 n0 a1 post fu S x3 x4 → VJ X G S 6 [(0, .ref (G.1 k0)), (1, .long a1), (3, .int x3), (4, .int x4)] [] := by
  intro fu
  induction fu with
  | zero => intro S x3 x4 h; exact absurd h id
  | succ fu ih =>
    intro S x3 x4 h
    have hK6 := ih
    rw [e_J7_fill_d0a16_6] at h
    refine V_iload_n C 2 dJ7_fill_d0a16_6 rfl rfl ?_
    refine V_iload C 3 dJ7_fill_d0a16_7 rfl ?_
    refine V_icmp_ge (tgt := 22) C dJ7_fill_d0a16_9 (by decide) (fun c => ?_) (fun c => ?_)
    · have h := h.1 c
      exact V_vret C D dJ7_fill_d0a16_22 h
    · have h := h.2 c
      refine V_aload_n C 0 dJ7_fill_d0a16_12 rfl rfl ?_
      refine V_iload_n C 2 dJ7_fill_d0a16_13 rfl rfl ?_
      refine V_lload_n C 1 dJ7_fill_d0a16_14 rfl rfl ?_
      obtain ⟨hi, h⟩ := h
      refine V_last C k0 n0 hk0 hs0 hi dJ7_fill_d0a16_15 ?_
      refine V_topS (fun S7 eS7 => ?_)
      have h := h S7 eS7
      obtain ⟨y8, ey8⟩ : ∃ z : Int32, z = x3 + 1 := ⟨_, rfl⟩
      have h := h y8 ey8
      refine V_iinc (lv' := [(0, .ref (G.1 k0)), (1, .long a1), (3, .int y8), (4, .int x4)]) C 2 [1, 2, 0, 3] y8 dJ7_fill_d0a16_16 rfl (by rw [ey8]; rfl) (by decide) rfl ?_
      refine V_goto (tgt := 6) C dJ7_fill_d0a16_19 (by decide) ?_
      exact hK6 _ _ _ h
set_option maxHeartbeats 4000000 in
set_option maxRecDepth 100000 in
theorem c_J7_fill_d0a16 (l : Launch) (G : vG)  {k0 n0 : Nat} (hk0 : k0 < 145) (hs0 : v_sh k0 = (14, n0))  {S : vSt} (a1 : Int64) (post : vSt → Prop) (h : p_J7_fill_d0a16 k0 n0  S a1 post) : Met l yJ7_fill_d0a16 (v_ws yJ7_fill_d0a16 cJ7_fill_d0a16 5 none) (v_rm 0 40) (v_Pc G [.ref (G.1 k0), .long a1] S) (v_Qv G post) 0 0 (v_A G) := by
  refine v_start (by decide +kernel) (Nat.le_of_ble_eq_true rfl) (fun X hl C D => ?_)
  subst hl
  have C : v_Cx X G cJ7_fill_d0a16 RJ7 5 (v_rm 0 40) := C
  show VJ X G S 0 [(0, .ref (G.1 k0)), (1, .long a1)] []
  refine V_iconst (v := 0) C dJ7_fill_d0a16_0 (by decide) ?_
  refine V_istore_n (lv' := [(0, .ref (G.1 k0)), (1, .long a1), (3, .int 0)]) C [1, 2, 0] dJ7_fill_d0a16_1 rfl (by decide) rfl ?_
  refine V_aload_n C 0 dJ7_fill_d0a16_2 rfl rfl ?_
  refine V_alen C k0 n0 hk0 (Or.inr (Or.inr (Or.inl hs0))) dJ7_fill_d0a16_3 ?_
  refine V_topi (fun y6 ey6 => ?_)
  have h := h y6 ey6
  refine V_istore (lv' := [(0, .ref (G.1 k0)), (1, .long a1), (3, .int 0), (4, .int y6)]) C [1, 2, 3, 0] dJ7_fill_d0a16_4 (by decide) rfl ?_
  obtain ⟨fu6, h⟩ := h
  exact q_J7_fill_d0a16_6 C D hk0 hs0 fu6 _ _ _ h
/-! HalfAccuser$Hopes.weigh(I)V -/
theorem dX3_weigh_0 : decode cX3_weigh 0 = .ok ((.aload_n 0), 1) := by decide +kernel
theorem dX3_weigh_1 : decode cX3_weigh 1 = .ok ((.getfield 9), 3) := by decide +kernel
theorem dX3_weigh_4 : decode cX3_weigh 4 = .ok ((.lconst 0), 1) := by decide +kernel
theorem dX3_weigh_5 : decode cX3_weigh 5 = .ok ((.invokestatic 50), 3) := by decide +kernel
theorem dX3_weigh_8 : decode cX3_weigh 8 = .ok ((.aload_n 0), 1) := by decide +kernel
theorem dX3_weigh_9 : decode cX3_weigh 9 = .ok ((.getfield 9), 3) := by decide +kernel
theorem dX3_weigh_12 : decode cX3_weigh 12 = .ok ((.iconst 0), 1) := by decide +kernel
theorem dX3_weigh_13 : decode cX3_weigh 13 = .ok ((.lconst 1), 1) := by decide +kernel
theorem dX3_weigh_14 : decode cX3_weigh 14 = .ok ((.invokestatic 56), 3) := by decide +kernel
theorem dX3_weigh_17 : decode cX3_weigh 17 = .ok ((.iconst 1), 1) := by decide +kernel
theorem dX3_weigh_18 : decode cX3_weigh 18 = .ok ((.istore_n 2), 1) := by decide +kernel
theorem dX3_weigh_19 : decode cX3_weigh 19 = .ok ((.iload_n 2), 1) := by decide +kernel
theorem dX3_weigh_20 : decode cX3_weigh 20 = .ok ((.aload_n 0), 1) := by decide +kernel
theorem dX3_weigh_21 : decode cX3_weigh 21 = .ok ((.getfield 40), 3) := by decide +kernel
theorem dX3_weigh_24 : decode cX3_weigh 24 = .ok ((.iconst 0), 1) := by decide +kernel
theorem dX3_weigh_25 : decode cX3_weigh 25 = .ok ((.invokevirtual 44), 3) := by decide +kernel
theorem dX3_weigh_28 : decode cX3_weigh 28 = .ok ((.if_icmp .gt 57), 3) := by decide +kernel
theorem dX3_weigh_31 : decode cX3_weigh 31 = .ok ((.iload_n 2), 1) := by decide +kernel
theorem dX3_weigh_32 : decode cX3_weigh 32 = .ok ((.istore_n 3), 1) := by decide +kernel
theorem dX3_weigh_33 : decode cX3_weigh 33 = .ok ((.iload_n 3), 1) := by decide +kernel
theorem dX3_weigh_34 : decode cX3_weigh 34 = .ok ((.ifCond .lt 45), 3) := by decide +kernel
theorem dX3_weigh_37 : decode cX3_weigh 37 = .ok ((.aload_n 0), 1) := by decide +kernel
theorem dX3_weigh_38 : decode cX3_weigh 38 = .ok ((.getfield 9), 3) := by decide +kernel
theorem dX3_weigh_41 : decode cX3_weigh 41 = .ok ((.iload_n 3), 1) := by decide +kernel
theorem dX3_weigh_42 : decode cX3_weigh 42 = .ok ((.aload_n 0), 1) := by decide +kernel
theorem dX3_weigh_43 : decode cX3_weigh 43 = .ok ((.getfield 9), 3) := by decide +kernel
theorem dX3_weigh_46 : decode cX3_weigh 46 = .ok ((.iload_n 3), 1) := by decide +kernel
theorem dX3_weigh_47 : decode cX3_weigh 47 = .ok ((.invokestatic 60), 3) := by decide +kernel
theorem dX3_weigh_50 : decode cX3_weigh 50 = .ok ((.bipush 16), 2) := by decide +kernel
theorem dX3_weigh_52 : decode cX3_weigh 52 = .ok ((.iload_n 1), 1) := by decide +kernel
theorem dX3_weigh_53 : decode cX3_weigh 53 = .ok (.isub, 1) := by decide +kernel
theorem dX3_weigh_54 : decode cX3_weigh 54 = .ok (.i2l, 1) := by decide +kernel
theorem dX3_weigh_55 : decode cX3_weigh 55 = .ok (.lmul, 1) := by decide +kernel
theorem dX3_weigh_56 : decode cX3_weigh 56 = .ok ((.aload_n 0), 1) := by decide +kernel
theorem dX3_weigh_57 : decode cX3_weigh 57 = .ok ((.getfield 9), 3) := by decide +kernel
theorem dX3_weigh_60 : decode cX3_weigh 60 = .ok ((.iload_n 3), 1) := by decide +kernel
theorem dX3_weigh_61 : decode cX3_weigh 61 = .ok ((.iconst 1), 1) := by decide +kernel
theorem dX3_weigh_62 : decode cX3_weigh 62 = .ok (.isub, 1) := by decide +kernel
theorem dX3_weigh_63 : decode cX3_weigh 63 = .ok ((.invokestatic 60), 3) := by decide +kernel
theorem dX3_weigh_66 : decode cX3_weigh 66 = .ok ((.iload_n 1), 1) := by decide +kernel
theorem dX3_weigh_67 : decode cX3_weigh 67 = .ok (.i2l, 1) := by decide +kernel
theorem dX3_weigh_68 : decode cX3_weigh 68 = .ok (.lmul, 1) := by decide +kernel
theorem dX3_weigh_69 : decode cX3_weigh 69 = .ok (.ladd, 1) := by decide +kernel
theorem dX3_weigh_70 : decode cX3_weigh 70 = .ok ((.invokestatic 56), 3) := by decide +kernel
theorem dX3_weigh_73 : decode cX3_weigh 73 = .ok ((.iinc 3 (-1)), 3) := by decide +kernel
theorem dX3_weigh_76 : decode cX3_weigh 76 = .ok ((.goto (-43)), 3) := by decide +kernel
theorem dX3_weigh_79 : decode cX3_weigh 79 = .ok ((.iinc 2 1), 3) := by decide +kernel
theorem dX3_weigh_82 : decode cX3_weigh 82 = .ok ((.goto (-63)), 3) := by decide +kernel
theorem dX3_weigh_85 : decode cX3_weigh 85 = .ok (.return_, 1) := by decide +kernel
def p_X3_weigh_33  (a1 : Int32)  (K19 : vSt → Int32 → Prop) (post : vSt → Prop) : Nat → vSt → Int32 → Int32 → Prop
  | 0 => fun _ _ _ => False
  | fu33 + 1 => fun S x2 x3 => ((x3 < 0 → ∀ y25 : Int32, y25 = x2 + 1 → K19 S y25) ∧ (¬ x3 < 0 → p_X10_at_ 59 10 S x3 (fun r27 S26 => p_X10_at_ 59 10 S26 (x3 - 1) (fun r29 S28 => p_X10_put_ 59 10 S28 x3 ((r27 * (Int32.toInt64 (16 - a1))) + (r29 * (Int32.toInt64 a1))) (fun S30 => ∀ y31 : Int32, y31 = x3 + (-1) → (p_X3_weigh_33 a1 K19 post fu33) S30 x2 y31)))))
theorem e_X3_weigh_33  (a1 : Int32)  (K19 : vSt → Int32 → Prop) (post : vSt → Prop) (fu33 : Nat) (S : vSt) (x2 : Int32) (x3 : Int32) : p_X3_weigh_33 a1 K19 post (fu33 + 1) S x2 x3 = (((x3 < 0 → ∀ y25 : Int32, y25 = x2 + 1 → K19 S y25) ∧ (¬ x3 < 0 → p_X10_at_ 59 10 S x3 (fun r27 S26 => p_X10_at_ 59 10 S26 (x3 - 1) (fun r29 S28 => p_X10_put_ 59 10 S28 x3 ((r27 * (Int32.toInt64 (16 - a1))) + (r29 * (Int32.toInt64 a1))) (fun S30 => ∀ y31 : Int32, y31 = x3 + (-1) → (p_X3_weigh_33 a1 K19 post fu33) S30 x2 y31)))))) := rfl
def p_X3_weigh_19  (a1 : Int32)   (post : vSt → Prop) : Nat → vSt → Int32 → Prop
  | 0 => fun _ _ => False
  | fu19 + 1 => fun S x2 => p_X0_ruleOf 10 S 0 (fun r24 S23 => ((r24 < x2 → post S23) ∧ (¬ r24 < x2 → ∃ fu33, p_X3_weigh_33 a1 (p_X3_weigh_19 a1 post fu19) post fu33 S23 x2 x2)))
theorem e_X3_weigh_19  (a1 : Int32)   (post : vSt → Prop) (fu19 : Nat) (S : vSt) (x2 : Int32) : p_X3_weigh_19 a1 post (fu19 + 1) S x2 = (p_X0_ruleOf 10 S 0 (fun r24 S23 => ((r24 < x2 → post S23) ∧ (¬ r24 < x2 → ∃ fu33, p_X3_weigh_33 a1 (p_X3_weigh_19 a1 post fu19) post fu33 S23 x2 x2)))) := rfl
def p_X3_weigh   (S : vSt) (a1 : Int32) (post : vSt → Prop) : Prop := p_J7_fill_d0a16 59 10 S 0 (fun S21 => p_X10_put_ 59 10 S21 0 1 (fun S22 => ∃ fu19, p_X3_weigh_19 a1 post fu19 S22 1))
set_option maxHeartbeats 4000000 in
set_option maxRecDepth 100000 in
theorem q_X3_weigh_33 {X : vX} {G : vG}  {post : vSt → Prop} (C : v_Cx X G cX3_weigh RX3 4 (v_rm 2 82)) (D : v_Rx X G (v_Qv G post) none)  {a1 : Int32}  {K19 : vSt → Int32 → Prop} (hK19 : ∀ S x2, K19 S x2 → VJ X G S 19 [(0, .ref (G.1 58)), (1, .int a1), (2, .int x2)] []) : ∀ (fu : Nat) (S : vSt) (x2 : Int32) (x3 : Int32), p_X3_weigh_33 a1 K19 post fu S x2 x3 → VJ X G S 33 [(0, .ref (G.1 58)), (1, .int a1), (2, .int x2), (3, .int x3)] [] := by
  intro fu
  induction fu with
  | zero => intro S x2 x3 h; exact absurd h id
  | succ fu ih =>
    intro S x2 x3 h
    have hK33 := ih
    rw [e_X3_weigh_33] at h
    refine V_iload_n C 3 dX3_weigh_33 rfl rfl ?_
    refine V_if_lt (tgt := 79) C dX3_weigh_34 (by decide) (fun c => ?_) (fun c => ?_)
    · have h := h.1 c
      obtain ⟨y25, ey25⟩ : ∃ z : Int32, z = x2 + 1 := ⟨_, rfl⟩
      have h := h y25 ey25
      refine V_iinc (lv' := [(0, .ref (G.1 58)), (1, .int a1), (2, .int y25), (3, .int x3)]) C 2 [1, 2, 0, 3] y25 dX3_weigh_79 rfl (by rw [ey25]; rfl) (by decide) rfl ?_
      refine V_goto (tgt := 19) C dX3_weigh_82 (by decide) ?_
      refine V_loc (lv' := [(0, .ref (G.1 58)), (1, .int a1), (2, .int y25)]) [0, 1, 2] rfl ?_
      exact hK19 _ _ h
    · have h := h.2 c
      refine V_aload_n C 0 dX3_weigh_37 rfl rfl ?_
      refine V_ga C 58 (by decide) (by decide) F_3_1 k_RX3_9 dX3_weigh_38 ?_
      refine V_iload_n C 3 dX3_weigh_41 rfl rfl ?_
      refine V_aload_n C 0 dX3_weigh_42 rfl rfl ?_
      refine V_ga C 58 (by decide) (by decide) F_3_1 k_RX3_9 dX3_weigh_43 ?_
      refine V_iload_n C 3 dX3_weigh_46 rfl rfl ?_
      refine V_callSNl (As := [.ref (G.1 59), .int x3]) (rest := [.int x3, .ref (G.1 59)]) C (c_X10_at_ (v_l X) G (by decide) (by decide) _ _ h) KV_X10_at_ (List.mem_of_getElem? (i := 10) rfl) rfl rfl rfl (Nat.le_of_ble_eq_true rfl) ⟨Nat.le_of_ble_eq_true rfl, Nat.le_of_ble_eq_true rfl⟩ dX3_weigh_47 (fun r27 S26 h => ?_)
      refine V_bipush (v := 16) C dX3_weigh_50 (by decide) ?_
      refine V_iload_n C 1 dX3_weigh_52 rfl rfl ?_
      refine V_isub C dX3_weigh_53 ?_
      refine V_i2l C dX3_weigh_54 ?_
      refine V_lmul C dX3_weigh_55 ?_
      refine V_aload_n C 0 dX3_weigh_56 rfl rfl ?_
      refine V_ga C 58 (by decide) (by decide) F_3_1 k_RX3_9 dX3_weigh_57 ?_
      refine V_iload_n C 3 dX3_weigh_60 rfl rfl ?_
      refine V_iconst (v := 1) C dX3_weigh_61 (by decide) ?_
      refine V_isub C dX3_weigh_62 ?_
      refine V_callSNl (As := [.ref (G.1 59), .int (x3 - 1)]) (rest := [.long (r27 * (Int32.toInt64 (16 - a1))), .int x3, .ref (G.1 59)]) C (c_X10_at_ (v_l X) G (by decide) (by decide) _ _ h) KV_X10_at_ (List.mem_of_getElem? (i := 10) rfl) rfl rfl rfl (Nat.le_of_ble_eq_true rfl) ⟨Nat.le_of_ble_eq_true rfl, Nat.le_of_ble_eq_true rfl⟩ dX3_weigh_63 (fun r29 S28 h => ?_)
      refine V_iload_n C 1 dX3_weigh_66 rfl rfl ?_
      refine V_i2l C dX3_weigh_67 ?_
      refine V_lmul C dX3_weigh_68 ?_
      refine V_ladd C dX3_weigh_69 ?_
      refine V_callSNv (As := [.ref (G.1 59), .int x3, .long ((r27 * (Int32.toInt64 (16 - a1))) + (r29 * (Int32.toInt64 a1)))]) (rest := []) C (c_X10_put_ (v_l X) G (by decide) (by decide) _ _ _ h) KV_X10_put_ (List.mem_of_getElem? (i := 9) rfl) rfl rfl rfl (Nat.le_of_ble_eq_true rfl) ⟨Nat.le_of_ble_eq_true rfl, Nat.le_of_ble_eq_true rfl⟩ dX3_weigh_70 (fun S30 h => ?_)
      obtain ⟨y31, ey31⟩ : ∃ z : Int32, z = x3 + (-1) := ⟨_, rfl⟩
      have h := h y31 ey31
      refine V_iinc (lv' := [(0, .ref (G.1 58)), (1, .int a1), (2, .int x2), (3, .int y31)]) C 3 [1, 2, 3, 0] y31 dX3_weigh_73 rfl (by rw [ey31]; rfl) (by decide) rfl ?_
      refine V_goto (tgt := 33) C dX3_weigh_76 (by decide) ?_
      exact hK33 _ _ _ h
set_option maxHeartbeats 4000000 in
set_option maxRecDepth 100000 in
theorem q_X3_weigh_19 {X : vX} {G : vG}  {post : vSt → Prop} (C : v_Cx X G cX3_weigh RX3 4 (v_rm 2 82)) (D : v_Rx X G (v_Qv G post) none)  {a1 : Int32}   : ∀ (fu : Nat) (S : vSt) (x2 : Int32), p_X3_weigh_19 a1 post fu S x2 → VJ X G S 19 [(0, .ref (G.1 58)), (1, .int a1), (2, .int x2)] [] := by
  intro fu
  induction fu with
  | zero => intro S x2 h; exact absurd h id
  | succ fu ih =>
    intro S x2 h
    have hK19 := ih
    rw [e_X3_weigh_19] at h
    refine V_iload_n C 2 dX3_weigh_19 rfl rfl ?_
    refine V_aload_n C 0 dX3_weigh_20 rfl rfl ?_
    refine V_ga C 58 (by decide) (by decide) F_3_0 k_RX3_40 dX3_weigh_21 ?_
    refine V_iconst (v := 0) C dX3_weigh_24 (by decide) ?_
    refine V_callVi (As := [.int 0]) (rest := [.int x2]) C (c_X0_ruleOf (v_l X) G v_i10 _ _ h) 10 0 (by decide) (by decide) (by decide) rfl KV_X0_ruleOf k_RX3_44 rfl rfl rfl (Nat.le_of_ble_eq_true rfl) ⟨Nat.le_of_ble_eq_true rfl, Nat.le_of_ble_eq_true rfl⟩ dX3_weigh_25 (fun r24 S23 h => ?_)
    refine V_icmp_gt (tgt := 85) C dX3_weigh_28 (by decide) (fun c => ?_) (fun c => ?_)
    · have h := h.1 c
      exact V_vret C D dX3_weigh_85 h
    · have h := h.2 c
      refine V_iload_n C 2 dX3_weigh_31 rfl rfl ?_
      refine V_istore_n (lv' := [(0, .ref (G.1 58)), (1, .int a1), (2, .int x2), (3, .int x2)]) C [1, 2, 3, 0] dX3_weigh_32 rfl (by decide) rfl ?_
      obtain ⟨fu33, h⟩ := h
      exact q_X3_weigh_33 C D hK19 fu33 _ _ _ h
set_option maxHeartbeats 4000000 in
set_option maxRecDepth 100000 in
theorem c_X3_weigh (l : Launch) (G : vG)    {S : vSt} (a1 : Int32) (post : vSt → Prop) (h : p_X3_weigh   S a1 post) : Met l yX3_weigh (v_ws yX3_weigh cX3_weigh 4 none) (v_rm 2 82) (v_Pc G [.ref (G.1 58), .int a1] S) (v_Qv G post) 0 0 (v_A G) := by
  refine v_start (by decide +kernel) (Nat.le_of_ble_eq_true rfl) (fun X hl C D => ?_)
  subst hl
  have C : v_Cx X G cX3_weigh RX3 4 (v_rm 2 82) := C
  show VJ X G S 0 [(0, .ref (G.1 58)), (1, .int a1)] []
  refine V_aload_n C 0 dX3_weigh_0 rfl rfl ?_
  refine V_ga C 58 (by decide) (by decide) F_3_1 k_RX3_9 dX3_weigh_1 ?_
  refine V_lconst (v := 0) C dX3_weigh_4 (by decide) ?_
  refine V_callSv (As := [.ref (G.1 59), .long 0]) (rest := []) C (c_J7_fill_d0a16 (v_l X) G (by decide) (by decide) _ _ h) KV_J7_fill_d0a16 k_RX3_50 rfl rfl rfl (Nat.le_of_ble_eq_true rfl) ⟨Nat.le_of_ble_eq_true rfl, Nat.le_of_ble_eq_true rfl⟩ dX3_weigh_5 (fun S21 h => ?_)
  refine V_aload_n C 0 dX3_weigh_8 rfl rfl ?_
  refine V_ga C 58 (by decide) (by decide) F_3_1 k_RX3_9 dX3_weigh_9 ?_
  refine V_iconst (v := 0) C dX3_weigh_12 (by decide) ?_
  refine V_lconst (v := 1) C dX3_weigh_13 (by decide) ?_
  refine V_callSNv (As := [.ref (G.1 59), .int 0, .long 1]) (rest := []) C (c_X10_put_ (v_l X) G (by decide) (by decide) _ _ _ h) KV_X10_put_ (List.mem_of_getElem? (i := 9) rfl) rfl rfl rfl (Nat.le_of_ble_eq_true rfl) ⟨Nat.le_of_ble_eq_true rfl, Nat.le_of_ble_eq_true rfl⟩ dX3_weigh_14 (fun S22 h => ?_)
  refine V_iconst (v := 1) C dX3_weigh_17 (by decide) ?_
  refine V_istore_n (lv' := [(0, .ref (G.1 58)), (1, .int a1), (2, .int 1)]) C [1, 2, 0] dX3_weigh_18 rfl (by decide) rfl ?_
  obtain ⟨fu19, h⟩ := h
  exact q_X3_weigh_19 C D  fu19 _ _ h
/-! HalfAccuser$Hopes.waysToWin()J -/
theorem dX3_waysToWin_0 : decode cX3_waysToWin 0 = .ok ((.aload_n 0), 1) := by decide +kernel
theorem dX3_waysToWin_1 : decode cX3_waysToWin 1 = .ok ((.getfield 40), 3) := by decide +kernel
theorem dX3_waysToWin_4 : decode cX3_waysToWin 4 = .ok ((.iconst 0), 1) := by decide +kernel
theorem dX3_waysToWin_5 : decode cX3_waysToWin 5 = .ok ((.invokevirtual 44), 3) := by decide +kernel
theorem dX3_waysToWin_8 : decode cX3_waysToWin 8 = .ok ((.istore_n 1), 1) := by decide +kernel
theorem dX3_waysToWin_9 : decode cX3_waysToWin 9 = .ok ((.lconst 0), 1) := by decide +kernel
theorem dX3_waysToWin_10 : decode cX3_waysToWin 10 = .ok ((.lstore_n 2), 1) := by decide +kernel
theorem dX3_waysToWin_11 : decode cX3_waysToWin 11 = .ok ((.iconst 0), 1) := by decide +kernel
theorem dX3_waysToWin_12 : decode cX3_waysToWin 12 = .ok ((.istore 4), 2) := by decide +kernel
theorem dX3_waysToWin_14 : decode cX3_waysToWin 14 = .ok ((.iload 4), 2) := by decide +kernel
theorem dX3_waysToWin_16 : decode cX3_waysToWin 16 = .ok ((.iload_n 1), 1) := by decide +kernel
theorem dX3_waysToWin_17 : decode cX3_waysToWin 17 = .ok ((.if_icmp .gt 33), 3) := by decide +kernel
theorem dX3_waysToWin_20 : decode cX3_waysToWin 20 = .ok ((.lload_n 2), 1) := by decide +kernel
theorem dX3_waysToWin_21 : decode cX3_waysToWin 21 = .ok ((.iconst 2), 1) := by decide +kernel
theorem dX3_waysToWin_22 : decode cX3_waysToWin 22 = .ok ((.iload 4), 2) := by decide +kernel
theorem dX3_waysToWin_24 : decode cX3_waysToWin 24 = .ok (.imul, 1) := by decide +kernel
theorem dX3_waysToWin_25 : decode cX3_waysToWin 25 = .ok ((.iload_n 1), 1) := by decide +kernel
theorem dX3_waysToWin_26 : decode cX3_waysToWin 26 = .ok ((.if_icmp .le 15), 3) := by decide +kernel
theorem dX3_waysToWin_29 : decode cX3_waysToWin 29 = .ok ((.aload_n 0), 1) := by decide +kernel
theorem dX3_waysToWin_30 : decode cX3_waysToWin 30 = .ok ((.getfield 9), 3) := by decide +kernel
theorem dX3_waysToWin_33 : decode cX3_waysToWin 33 = .ok ((.iload 4), 2) := by decide +kernel
theorem dX3_waysToWin_35 : decode cX3_waysToWin 35 = .ok ((.invokestatic 60), 3) := by decide +kernel
theorem dX3_waysToWin_38 : decode cX3_waysToWin 38 = .ok ((.goto 4), 3) := by decide +kernel
theorem dX3_waysToWin_41 : decode cX3_waysToWin 41 = .ok ((.lconst 0), 1) := by decide +kernel
theorem dX3_waysToWin_42 : decode cX3_waysToWin 42 = .ok (.ladd, 1) := by decide +kernel
theorem dX3_waysToWin_43 : decode cX3_waysToWin 43 = .ok ((.lstore_n 2), 1) := by decide +kernel
theorem dX3_waysToWin_44 : decode cX3_waysToWin 44 = .ok ((.iinc 4 1), 3) := by decide +kernel
theorem dX3_waysToWin_47 : decode cX3_waysToWin 47 = .ok ((.goto (-33)), 3) := by decide +kernel
theorem dX3_waysToWin_50 : decode cX3_waysToWin 50 = .ok ((.lload_n 2), 1) := by decide +kernel
theorem dX3_waysToWin_51 : decode cX3_waysToWin 51 = .ok (.lreturn, 1) := by decide +kernel
def p_X3_waysToWin_42    (K14 : vSt → Int32 → Int64 → Int32 → Prop) (post : Int64 → vSt → Prop) (S : vSt) (x1 : Int32) (x4 : Int32) (s0 : Int64) (s1 : Int64) : Prop := ∀ y13 : Int64, y13 = (s1 + s0) → ∀ y14 : Int32, y14 = x4 + 1 → K14 S x1 y13 y14
def p_X3_waysToWin_14     (post : Int64 → vSt → Prop) : Nat → vSt → Int32 → Int64 → Int32 → Prop
  | 0 => fun _ _ _ _ => False
  | fu14 + 1 => fun S x1 x2 x4 => ((x1 < x4 → post x2 S) ∧ (¬ x1 < x4 → (((2 * x4) ≤ x1 → p_X3_waysToWin_42 (p_X3_waysToWin_14  post fu14) post S x1 x4 0 x2) ∧ (¬ (2 * x4) ≤ x1 → p_X10_at_ 59 10 S x4 (fun r14 S13 => p_X3_waysToWin_42 (p_X3_waysToWin_14  post fu14) post S13 x1 x4 r14 x2)))))
theorem e_X3_waysToWin_14     (post : Int64 → vSt → Prop) (fu14 : Nat) (S : vSt) (x1 : Int32) (x2 : Int64) (x4 : Int32) : p_X3_waysToWin_14  post (fu14 + 1) S x1 x2 x4 = (((x1 < x4 → post x2 S) ∧ (¬ x1 < x4 → (((2 * x4) ≤ x1 → p_X3_waysToWin_42 (p_X3_waysToWin_14  post fu14) post S x1 x4 0 x2) ∧ (¬ (2 * x4) ≤ x1 → p_X10_at_ 59 10 S x4 (fun r14 S13 => p_X3_waysToWin_42 (p_X3_waysToWin_14  post fu14) post S13 x1 x4 r14 x2)))))) := rfl
def p_X3_waysToWin   (S : vSt)  (post : Int64 → vSt → Prop) : Prop := p_X0_ruleOf 10 S 0 (fun r12 S11 => ∃ fu14, p_X3_waysToWin_14  post fu14 S11 r12 0 0)
set_option maxHeartbeats 4000000 in
set_option maxRecDepth 100000 in
theorem q_X3_waysToWin_42 {X : vX} {G : vG}  {post : Int64 → vSt → Prop} (C : v_Cx X G cX3_waysToWin RX3 5 (v_rm 2 82)) (D : v_Rx X G (v_Ql G post) (some .long))    {K14 : vSt → Int32 → Int64 → Int32 → Prop} (hK14 : ∀ S x1 x2 x4, K14 S x1 x2 x4 → VJ X G S 14 [(0, .ref (G.1 58)), (1, .int x1), (2, .long x2), (4, .int x4)] []) : ∀ (S : vSt) (x1 : Int32) (x4 : Int32) (s0 : Int64) (s1 : Int64), p_X3_waysToWin_42 K14 post S x1 x4 s0 s1 → VJ X G S 42 [(0, .ref (G.1 58)), (1, .int x1), (4, .int x4)] [.long s0, .long s1] := by
  intro S x1 x4 s0 s1 h
  refine V_ladd C dX3_waysToWin_42 ?_
  refine V_topl (fun y13 ey13 => ?_)
  have h := h y13 ey13
  refine V_lstore_n (lv' := [(0, .ref (G.1 58)), (1, .int x1), (2, .long y13), (4, .int x4)]) C [1, 2, 0, 3] dX3_waysToWin_43 rfl (by decide) rfl ?_
  obtain ⟨y14, ey14⟩ : ∃ z : Int32, z = x4 + 1 := ⟨_, rfl⟩
  have h := h y14 ey14
  refine V_iinc (lv' := [(0, .ref (G.1 58)), (1, .int x1), (2, .long y13), (4, .int y14)]) C 3 [1, 2, 3, 0] y14 dX3_waysToWin_44 rfl (by rw [ey14]; rfl) (by decide) rfl ?_
  refine V_goto (tgt := 14) C dX3_waysToWin_47 (by decide) ?_
  exact hK14 _ _ _ _ h
set_option maxHeartbeats 4000000 in
set_option maxRecDepth 100000 in
theorem q_X3_waysToWin_14 {X : vX} {G : vG}  {post : Int64 → vSt → Prop} (C : v_Cx X G cX3_waysToWin RX3 5 (v_rm 2 82)) (D : v_Rx X G (v_Ql G post) (some .long))     : ∀ (fu : Nat) (S : vSt) (x1 : Int32) (x2 : Int64) (x4 : Int32), p_X3_waysToWin_14  post fu S x1 x2 x4 → VJ X G S 14 [(0, .ref (G.1 58)), (1, .int x1), (2, .long x2), (4, .int x4)] [] := by
  intro fu
  induction fu with
  | zero => intro S x1 x2 x4 h; exact absurd h id
  | succ fu ih =>
    intro S x1 x2 x4 h
    have hK14 := ih
    rw [e_X3_waysToWin_14] at h
    refine V_iload C 3 dX3_waysToWin_14 rfl ?_
    refine V_iload_n C 1 dX3_waysToWin_16 rfl rfl ?_
    refine V_icmp_gt (tgt := 50) C dX3_waysToWin_17 (by decide) (fun c => ?_) (fun c => ?_)
    · have h := h.1 c
      refine V_lload_n C 2 dX3_waysToWin_50 rfl rfl ?_
      exact V_lret C D dX3_waysToWin_51 h
    · have h := h.2 c
      refine V_lload_n C 2 dX3_waysToWin_20 rfl rfl ?_
      refine V_iconst (v := 2) C dX3_waysToWin_21 (by decide) ?_
      refine V_iload C 3 dX3_waysToWin_22 rfl ?_
      refine V_imul C dX3_waysToWin_24 ?_
      refine V_iload_n C 1 dX3_waysToWin_25 rfl rfl ?_
      refine V_icmp_le (tgt := 41) C dX3_waysToWin_26 (by decide) (fun c => ?_) (fun c => ?_)
      · have h := h.1 c
        refine V_lconst (v := 0) C dX3_waysToWin_41 (by decide) ?_
        refine V_loc (lv' := [(0, .ref (G.1 58)), (1, .int x1), (4, .int x4)]) [0, 1, 3] rfl ?_
        exact q_X3_waysToWin_42 C D hK14 _ _ _ _ _ h
      · have h := h.2 c
        refine V_aload_n C 0 dX3_waysToWin_29 rfl rfl ?_
        refine V_ga C 58 (by decide) (by decide) F_3_1 k_RX3_9 dX3_waysToWin_30 ?_
        refine V_iload C 3 dX3_waysToWin_33 rfl ?_
        refine V_callSNl (As := [.ref (G.1 59), .int x4]) (rest := [.long x2]) C (c_X10_at_ (v_l X) G (by decide) (by decide) _ _ h) KV_X10_at_ (List.mem_of_getElem? (i := 10) rfl) rfl rfl rfl (Nat.le_of_ble_eq_true rfl) ⟨Nat.le_of_ble_eq_true rfl, Nat.le_of_ble_eq_true rfl⟩ dX3_waysToWin_35 (fun r14 S13 h => ?_)
        refine V_goto (tgt := 42) C dX3_waysToWin_38 (by decide) ?_
        refine V_loc (lv' := [(0, .ref (G.1 58)), (1, .int x1), (4, .int x4)]) [0, 1, 3] rfl ?_
        exact q_X3_waysToWin_42 C D hK14 _ _ _ _ _ h
set_option maxHeartbeats 4000000 in
set_option maxRecDepth 100000 in
theorem c_X3_waysToWin (l : Launch) (G : vG)    {S : vSt}  (post : Int64 → vSt → Prop) (h : p_X3_waysToWin   S  post) : Met l yX3_waysToWin (v_ws yX3_waysToWin cX3_waysToWin 5 (some .long)) (v_rm 2 82) (v_Pc G [.ref (G.1 58)] S) (v_Ql G post) 0 0 (v_A G) := by
  refine v_start (by decide +kernel) (Nat.le_of_ble_eq_true rfl) (fun X hl C D => ?_)
  subst hl
  have C : v_Cx X G cX3_waysToWin RX3 5 (v_rm 2 82) := C
  show VJ X G S 0 [(0, .ref (G.1 58))] []
  refine V_aload_n C 0 dX3_waysToWin_0 rfl rfl ?_
  refine V_ga C 58 (by decide) (by decide) F_3_0 k_RX3_40 dX3_waysToWin_1 ?_
  refine V_iconst (v := 0) C dX3_waysToWin_4 (by decide) ?_
  refine V_callVi (As := [.int 0]) (rest := []) C (c_X0_ruleOf (v_l X) G v_i10 _ _ h) 10 0 (by decide) (by decide) (by decide) rfl KV_X0_ruleOf k_RX3_44 rfl rfl rfl (Nat.le_of_ble_eq_true rfl) ⟨Nat.le_of_ble_eq_true rfl, Nat.le_of_ble_eq_true rfl⟩ dX3_waysToWin_5 (fun r12 S11 h => ?_)
  refine V_istore_n (lv' := [(0, .ref (G.1 58)), (1, .int r12)]) C [1, 0] dX3_waysToWin_8 rfl (by decide) rfl ?_
  refine V_lconst (v := 0) C dX3_waysToWin_9 (by decide) ?_
  refine V_lstore_n (lv' := [(0, .ref (G.1 58)), (1, .int r12), (2, .long 0)]) C [1, 2, 0] dX3_waysToWin_10 rfl (by decide) rfl ?_
  refine V_iconst (v := 0) C dX3_waysToWin_11 (by decide) ?_
  refine V_istore (lv' := [(0, .ref (G.1 58)), (1, .int r12), (2, .long 0), (4, .int 0)]) C [1, 2, 3, 0] dX3_waysToWin_12 (by decide) rfl ?_
  obtain ⟨fu14, h⟩ := h
  exact q_X3_waysToWin_14 C D  fu14 _ _ _ _ h
/-! HalfAccuser$Hopes.waysToOwe()J -/
theorem dX3_waysToOwe_0 : decode cX3_waysToOwe 0 = .ok ((.aload_n 0), 1) := by decide +kernel
theorem dX3_waysToOwe_1 : decode cX3_waysToOwe 1 = .ok ((.getfield 40), 3) := by decide +kernel
theorem dX3_waysToOwe_4 : decode cX3_waysToOwe 4 = .ok ((.iconst 0), 1) := by decide +kernel
theorem dX3_waysToOwe_5 : decode cX3_waysToOwe 5 = .ok ((.invokevirtual 44), 3) := by decide +kernel
theorem dX3_waysToOwe_8 : decode cX3_waysToOwe 8 = .ok ((.istore_n 1), 1) := by decide +kernel
theorem dX3_waysToOwe_9 : decode cX3_waysToOwe 9 = .ok ((.lconst 0), 1) := by decide +kernel
theorem dX3_waysToOwe_10 : decode cX3_waysToOwe 10 = .ok ((.lstore_n 2), 1) := by decide +kernel
theorem dX3_waysToOwe_11 : decode cX3_waysToOwe 11 = .ok ((.iconst 0), 1) := by decide +kernel
theorem dX3_waysToOwe_12 : decode cX3_waysToOwe 12 = .ok ((.istore 4), 2) := by decide +kernel
theorem dX3_waysToOwe_14 : decode cX3_waysToOwe 14 = .ok ((.iconst 2), 1) := by decide +kernel
theorem dX3_waysToOwe_15 : decode cX3_waysToOwe 15 = .ok ((.iload 4), 2) := by decide +kernel
theorem dX3_waysToOwe_17 : decode cX3_waysToOwe 17 = .ok (.imul, 1) := by decide +kernel
theorem dX3_waysToOwe_18 : decode cX3_waysToOwe 18 = .ok ((.iload_n 1), 1) := by decide +kernel
theorem dX3_waysToOwe_19 : decode cX3_waysToOwe 19 = .ok ((.if_icmp .gt 34), 3) := by decide +kernel
theorem dX3_waysToOwe_22 : decode cX3_waysToOwe 22 = .ok ((.iload 4), 2) := by decide +kernel
theorem dX3_waysToOwe_24 : decode cX3_waysToOwe 24 = .ok ((.aload_n 0), 1) := by decide +kernel
theorem dX3_waysToOwe_25 : decode cX3_waysToOwe 25 = .ok ((.getfield 40), 3) := by decide +kernel
theorem dX3_waysToOwe_28 : decode cX3_waysToOwe 28 = .ok ((.iconst 1), 1) := by decide +kernel
theorem dX3_waysToOwe_29 : decode cX3_waysToOwe 29 = .ok ((.invokevirtual 44), 3) := by decide +kernel
theorem dX3_waysToOwe_32 : decode cX3_waysToOwe 32 = .ok ((.if_icmp .ge 21), 3) := by decide +kernel
theorem dX3_waysToOwe_35 : decode cX3_waysToOwe 35 = .ok ((.lload_n 2), 1) := by decide +kernel
theorem dX3_waysToOwe_36 : decode cX3_waysToOwe 36 = .ok ((.aload_n 0), 1) := by decide +kernel
theorem dX3_waysToOwe_37 : decode cX3_waysToOwe 37 = .ok ((.getfield 9), 3) := by decide +kernel
theorem dX3_waysToOwe_40 : decode cX3_waysToOwe 40 = .ok ((.iload 4), 2) := by decide +kernel
theorem dX3_waysToOwe_42 : decode cX3_waysToOwe 42 = .ok ((.invokestatic 60), 3) := by decide +kernel
theorem dX3_waysToOwe_45 : decode cX3_waysToOwe 45 = .ok (.ladd, 1) := by decide +kernel
theorem dX3_waysToOwe_46 : decode cX3_waysToOwe 46 = .ok ((.lstore_n 2), 1) := by decide +kernel
theorem dX3_waysToOwe_47 : decode cX3_waysToOwe 47 = .ok ((.iinc 4 1), 3) := by decide +kernel
theorem dX3_waysToOwe_50 : decode cX3_waysToOwe 50 = .ok ((.goto (-36)), 3) := by decide +kernel
theorem dX3_waysToOwe_53 : decode cX3_waysToOwe 53 = .ok ((.lload_n 2), 1) := by decide +kernel
theorem dX3_waysToOwe_54 : decode cX3_waysToOwe 54 = .ok (.lreturn, 1) := by decide +kernel
def p_X3_waysToOwe_14     (post : Int64 → vSt → Prop) : Nat → vSt → Int32 → Int64 → Int32 → Prop
  | 0 => fun _ _ _ _ => False
  | fu14 + 1 => fun S x1 x2 x4 => ((x1 < (2 * x4) → post x2 S) ∧ (¬ x1 < (2 * x4) → p_X0_ruleOf 10 S 1 (fun r18 S17 => ((r18 ≤ x4 → post x2 S17) ∧ (¬ r18 ≤ x4 → p_X10_at_ 59 10 S17 x4 (fun r20 S19 => ∀ y21 : Int64, y21 = (x2 + r20) → ∀ y22 : Int32, y22 = x4 + 1 → (p_X3_waysToOwe_14  post fu14) S19 x1 y21 y22))))))
theorem e_X3_waysToOwe_14     (post : Int64 → vSt → Prop) (fu14 : Nat) (S : vSt) (x1 : Int32) (x2 : Int64) (x4 : Int32) : p_X3_waysToOwe_14  post (fu14 + 1) S x1 x2 x4 = (((x1 < (2 * x4) → post x2 S) ∧ (¬ x1 < (2 * x4) → p_X0_ruleOf 10 S 1 (fun r18 S17 => ((r18 ≤ x4 → post x2 S17) ∧ (¬ r18 ≤ x4 → p_X10_at_ 59 10 S17 x4 (fun r20 S19 => ∀ y21 : Int64, y21 = (x2 + r20) → ∀ y22 : Int32, y22 = x4 + 1 → (p_X3_waysToOwe_14  post fu14) S19 x1 y21 y22))))))) := rfl
def p_X3_waysToOwe   (S : vSt)  (post : Int64 → vSt → Prop) : Prop := p_X0_ruleOf 10 S 0 (fun r16 S15 => ∃ fu14, p_X3_waysToOwe_14  post fu14 S15 r16 0 0)
set_option maxHeartbeats 4000000 in
set_option maxRecDepth 100000 in
theorem q_X3_waysToOwe_14 {X : vX} {G : vG}  {post : Int64 → vSt → Prop} (C : v_Cx X G cX3_waysToOwe RX3 5 (v_rm 2 82)) (D : v_Rx X G (v_Ql G post) (some .long))     : ∀ (fu : Nat) (S : vSt) (x1 : Int32) (x2 : Int64) (x4 : Int32), p_X3_waysToOwe_14  post fu S x1 x2 x4 → VJ X G S 14 [(0, .ref (G.1 58)), (1, .int x1), (2, .long x2), (4, .int x4)] [] := by
  intro fu
  induction fu with
  | zero => intro S x1 x2 x4 h; exact absurd h id
  | succ fu ih =>
    intro S x1 x2 x4 h
    have hK14 := ih
    rw [e_X3_waysToOwe_14] at h
    refine V_iconst (v := 2) C dX3_waysToOwe_14 (by decide) ?_
    refine V_iload C 3 dX3_waysToOwe_15 rfl ?_
    refine V_imul C dX3_waysToOwe_17 ?_
    refine V_iload_n C 1 dX3_waysToOwe_18 rfl rfl ?_
    refine V_icmp_gt (tgt := 53) C dX3_waysToOwe_19 (by decide) (fun c => ?_) (fun c => ?_)
    · have h := h.1 c
      refine V_lload_n C 2 dX3_waysToOwe_53 rfl rfl ?_
      exact V_lret C D dX3_waysToOwe_54 h
    · have h := h.2 c
      refine V_iload C 3 dX3_waysToOwe_22 rfl ?_
      refine V_aload_n C 0 dX3_waysToOwe_24 rfl rfl ?_
      refine V_ga C 58 (by decide) (by decide) F_3_0 k_RX3_40 dX3_waysToOwe_25 ?_
      refine V_iconst (v := 1) C dX3_waysToOwe_28 (by decide) ?_
      refine V_callVi (As := [.int 1]) (rest := [.int x4]) C (c_X0_ruleOf (v_l X) G v_i10 _ _ h) 10 0 (by decide) (by decide) (by decide) rfl KV_X0_ruleOf k_RX3_44 rfl rfl rfl (Nat.le_of_ble_eq_true rfl) ⟨Nat.le_of_ble_eq_true rfl, Nat.le_of_ble_eq_true rfl⟩ dX3_waysToOwe_29 (fun r18 S17 h => ?_)
      refine V_icmp_ge (tgt := 53) C dX3_waysToOwe_32 (by decide) (fun c => ?_) (fun c => ?_)
      · have h := h.1 c
        refine V_lload_n C 2 dX3_waysToOwe_53 rfl rfl ?_
        exact V_lret C D dX3_waysToOwe_54 h
      · have h := h.2 c
        refine V_lload_n C 2 dX3_waysToOwe_35 rfl rfl ?_
        refine V_aload_n C 0 dX3_waysToOwe_36 rfl rfl ?_
        refine V_ga C 58 (by decide) (by decide) F_3_1 k_RX3_9 dX3_waysToOwe_37 ?_
        refine V_iload C 3 dX3_waysToOwe_40 rfl ?_
        refine V_callSNl (As := [.ref (G.1 59), .int x4]) (rest := [.long x2]) C (c_X10_at_ (v_l X) G (by decide) (by decide) _ _ h) KV_X10_at_ (List.mem_of_getElem? (i := 10) rfl) rfl rfl rfl (Nat.le_of_ble_eq_true rfl) ⟨Nat.le_of_ble_eq_true rfl, Nat.le_of_ble_eq_true rfl⟩ dX3_waysToOwe_42 (fun r20 S19 h => ?_)
        refine V_ladd C dX3_waysToOwe_45 ?_
        refine V_topl (fun y21 ey21 => ?_)
        have h := h y21 ey21
        refine V_lstore_n (lv' := [(0, .ref (G.1 58)), (1, .int x1), (2, .long y21), (4, .int x4)]) C [1, 2, 0, 3] dX3_waysToOwe_46 rfl (by decide) rfl ?_
        obtain ⟨y22, ey22⟩ : ∃ z : Int32, z = x4 + 1 := ⟨_, rfl⟩
        have h := h y22 ey22
        refine V_iinc (lv' := [(0, .ref (G.1 58)), (1, .int x1), (2, .long y21), (4, .int y22)]) C 3 [1, 2, 3, 0] y22 dX3_waysToOwe_47 rfl (by rw [ey22]; rfl) (by decide) rfl ?_
        refine V_goto (tgt := 14) C dX3_waysToOwe_50 (by decide) ?_
        exact hK14 _ _ _ _ h
set_option maxHeartbeats 4000000 in
set_option maxRecDepth 100000 in
theorem c_X3_waysToOwe (l : Launch) (G : vG)    {S : vSt}  (post : Int64 → vSt → Prop) (h : p_X3_waysToOwe   S  post) : Met l yX3_waysToOwe (v_ws yX3_waysToOwe cX3_waysToOwe 5 (some .long)) (v_rm 2 82) (v_Pc G [.ref (G.1 58)] S) (v_Ql G post) 0 0 (v_A G) := by
  refine v_start (by decide +kernel) (Nat.le_of_ble_eq_true rfl) (fun X hl C D => ?_)
  subst hl
  have C : v_Cx X G cX3_waysToOwe RX3 5 (v_rm 2 82) := C
  show VJ X G S 0 [(0, .ref (G.1 58))] []
  refine V_aload_n C 0 dX3_waysToOwe_0 rfl rfl ?_
  refine V_ga C 58 (by decide) (by decide) F_3_0 k_RX3_40 dX3_waysToOwe_1 ?_
  refine V_iconst (v := 0) C dX3_waysToOwe_4 (by decide) ?_
  refine V_callVi (As := [.int 0]) (rest := []) C (c_X0_ruleOf (v_l X) G v_i10 _ _ h) 10 0 (by decide) (by decide) (by decide) rfl KV_X0_ruleOf k_RX3_44 rfl rfl rfl (Nat.le_of_ble_eq_true rfl) ⟨Nat.le_of_ble_eq_true rfl, Nat.le_of_ble_eq_true rfl⟩ dX3_waysToOwe_5 (fun r16 S15 h => ?_)
  refine V_istore_n (lv' := [(0, .ref (G.1 58)), (1, .int r16)]) C [1, 0] dX3_waysToOwe_8 rfl (by decide) rfl ?_
  refine V_lconst (v := 0) C dX3_waysToOwe_9 (by decide) ?_
  refine V_lstore_n (lv' := [(0, .ref (G.1 58)), (1, .int r16), (2, .long 0)]) C [1, 2, 0] dX3_waysToOwe_10 rfl (by decide) rfl ?_
  refine V_iconst (v := 0) C dX3_waysToOwe_11 (by decide) ?_
  refine V_istore (lv' := [(0, .ref (G.1 58)), (1, .int r16), (2, .long 0), (4, .int 0)]) C [1, 2, 3, 0] dX3_waysToOwe_12 (by decide) rfl ?_
  obtain ⟨fu14, h⟩ := h
  exact q_X3_waysToOwe_14 C D  fu14 _ _ _ _ h
/-! HalfAccuser$Hopes.seeCharge(II)V -/
theorem dX3_seeCharge_0 : decode cX3_seeCharge 0 = .ok ((.iload_n 1), 1) := by decide +kernel
theorem dX3_seeCharge_1 : decode cX3_seeCharge 1 = .ok ((.iload_n 2), 1) := by decide +kernel
theorem dX3_seeCharge_2 : decode cX3_seeCharge 2 = .ok ((.invokestatic 89), 3) := by decide +kernel
theorem dX3_seeCharge_5 : decode cX3_seeCharge 5 = .ok ((.istore_n 3), 1) := by decide +kernel
theorem dX3_seeCharge_6 : decode cX3_seeCharge 6 = .ok ((.aload_n 0), 1) := by decide +kernel
theorem dX3_seeCharge_7 : decode cX3_seeCharge 7 = .ok ((.getfield 40), 3) := by decide +kernel
theorem dX3_seeCharge_10 : decode cX3_seeCharge 10 = .ok ((.iload_n 1), 1) := by decide +kernel
theorem dX3_seeCharge_11 : decode cX3_seeCharge 11 = .ok ((.iload_n 2), 1) := by decide +kernel
theorem dX3_seeCharge_12 : decode cX3_seeCharge 12 = .ok ((.invokevirtual 93), 3) := by decide +kernel
theorem dX3_seeCharge_15 : decode cX3_seeCharge 15 = .ok ((.istore 4), 2) := by decide +kernel
theorem dX3_seeCharge_17 : decode cX3_seeCharge 17 = .ok ((.aload_n 0), 1) := by decide +kernel
theorem dX3_seeCharge_18 : decode cX3_seeCharge 18 = .ok ((.getfield 15), 3) := by decide +kernel
theorem dX3_seeCharge_21 : decode cX3_seeCharge 21 = .ok ((.iload 4), 2) := by decide +kernel
theorem dX3_seeCharge_23 : decode cX3_seeCharge 23 = .ok ((.invokestatic 60), 3) := by decide +kernel
theorem dX3_seeCharge_26 : decode cX3_seeCharge 26 = .ok ((.lstore 5), 2) := by decide +kernel
theorem dX3_seeCharge_28 : decode cX3_seeCharge 28 = .ok ((.aload_n 0), 1) := by decide +kernel
theorem dX3_seeCharge_29 : decode cX3_seeCharge 29 = .ok ((.getfield 18), 3) := by decide +kernel
theorem dX3_seeCharge_32 : decode cX3_seeCharge 32 = .ok ((.iload 4), 2) := by decide +kernel
theorem dX3_seeCharge_34 : decode cX3_seeCharge 34 = .ok ((.invokestatic 60), 3) := by decide +kernel
theorem dX3_seeCharge_37 : decode cX3_seeCharge 37 = .ok ((.lstore 7), 2) := by decide +kernel
theorem dX3_seeCharge_39 : decode cX3_seeCharge 39 = .ok ((.aload_n 0), 1) := by decide +kernel
theorem dX3_seeCharge_40 : decode cX3_seeCharge 40 = .ok ((.getfield 40), 3) := by decide +kernel
theorem dX3_seeCharge_43 : decode cX3_seeCharge 43 = .ok ((.getfield 96), 3) := by decide +kernel
theorem dX3_seeCharge_46 : decode cX3_seeCharge 46 = .ok ((.iload_n 2), 1) := by decide +kernel
theorem dX3_seeCharge_47 : decode cX3_seeCharge 47 = .ok ((.invokestatic 99), 3) := by decide +kernel
theorem dX3_seeCharge_50 : decode cX3_seeCharge 50 = .ok ((.istore 9), 2) := by decide +kernel
theorem dX3_seeCharge_52 : decode cX3_seeCharge 52 = .ok ((.aload_n 0), 1) := by decide +kernel
theorem dX3_seeCharge_53 : decode cX3_seeCharge 53 = .ok ((.getfield 21), 3) := by decide +kernel
theorem dX3_seeCharge_56 : decode cX3_seeCharge 56 = .ok ((.iload_n 3), 1) := by decide +kernel
theorem dX3_seeCharge_57 : decode cX3_seeCharge 57 = .ok ((.lload 5), 2) := by decide +kernel
theorem dX3_seeCharge_59 : decode cX3_seeCharge 59 = .ok ((.invokestatic 56), 3) := by decide +kernel
theorem dX3_seeCharge_62 : decode cX3_seeCharge 62 = .ok ((.aload_n 0), 1) := by decide +kernel
theorem dX3_seeCharge_63 : decode cX3_seeCharge 63 = .ok ((.getfield 24), 3) := by decide +kernel
theorem dX3_seeCharge_66 : decode cX3_seeCharge 66 = .ok ((.iload_n 3), 1) := by decide +kernel
theorem dX3_seeCharge_67 : decode cX3_seeCharge 67 = .ok ((.lload 7), 2) := by decide +kernel
theorem dX3_seeCharge_69 : decode cX3_seeCharge 69 = .ok ((.invokestatic 56), 3) := by decide +kernel
theorem dX3_seeCharge_72 : decode cX3_seeCharge 72 = .ok ((.aload_n 0), 1) := by decide +kernel
theorem dX3_seeCharge_73 : decode cX3_seeCharge 73 = .ok ((.getfield 27), 3) := by decide +kernel
theorem dX3_seeCharge_76 : decode cX3_seeCharge 76 = .ok ((.iload_n 3), 1) := by decide +kernel
theorem dX3_seeCharge_77 : decode cX3_seeCharge 77 = .ok ((.lload 5), 2) := by decide +kernel
theorem dX3_seeCharge_79 : decode cX3_seeCharge 79 = .ok ((.iload 9), 2) := by decide +kernel
theorem dX3_seeCharge_81 : decode cX3_seeCharge 81 = .ok ((.aload_n 0), 1) := by decide +kernel
theorem dX3_seeCharge_82 : decode cX3_seeCharge 82 = .ok ((.getfield 40), 3) := by decide +kernel
theorem dX3_seeCharge_85 : decode cX3_seeCharge 85 = .ok ((.iconst 3), 1) := by decide +kernel
theorem dX3_seeCharge_86 : decode cX3_seeCharge 86 = .ok ((.invokevirtual 44), 3) := by decide +kernel
theorem dX3_seeCharge_89 : decode cX3_seeCharge 89 = .ok ((.invokestatic 102), 3) := by decide +kernel
theorem dX3_seeCharge_92 : decode cX3_seeCharge 92 = .ok (.i2l, 1) := by decide +kernel
theorem dX3_seeCharge_93 : decode cX3_seeCharge 93 = .ok (.lmul, 1) := by decide +kernel
theorem dX3_seeCharge_94 : decode cX3_seeCharge 94 = .ok ((.lload 7), 2) := by decide +kernel
theorem dX3_seeCharge_96 : decode cX3_seeCharge 96 = .ok ((.aload_n 0), 1) := by decide +kernel
theorem dX3_seeCharge_97 : decode cX3_seeCharge 97 = .ok ((.getfield 40), 3) := by decide +kernel
theorem dX3_seeCharge_100 : decode cX3_seeCharge 100 = .ok ((.iconst 2), 1) := by decide +kernel
theorem dX3_seeCharge_101 : decode cX3_seeCharge 101 = .ok ((.invokevirtual 44), 3) := by decide +kernel
theorem dX3_seeCharge_104 : decode cX3_seeCharge 104 = .ok (.i2l, 1) := by decide +kernel
theorem dX3_seeCharge_105 : decode cX3_seeCharge 105 = .ok (.lmul, 1) := by decide +kernel
theorem dX3_seeCharge_106 : decode cX3_seeCharge 106 = .ok (.lsub, 1) := by decide +kernel
theorem dX3_seeCharge_107 : decode cX3_seeCharge 107 = .ok ((.invokestatic 56), 3) := by decide +kernel
theorem dX3_seeCharge_110 : decode cX3_seeCharge 110 = .ok ((.aload_n 0), 1) := by decide +kernel
theorem dX3_seeCharge_111 : decode cX3_seeCharge 111 = .ok ((.getfield 30), 3) := by decide +kernel
theorem dX3_seeCharge_114 : decode cX3_seeCharge 114 = .ok ((.iload_n 3), 1) := by decide +kernel
theorem dX3_seeCharge_115 : decode cX3_seeCharge 115 = .ok ((.lload 5), 2) := by decide +kernel
theorem dX3_seeCharge_117 : decode cX3_seeCharge 117 = .ok ((.iload 9), 2) := by decide +kernel
theorem dX3_seeCharge_119 : decode cX3_seeCharge 119 = .ok (.i2l, 1) := by decide +kernel
theorem dX3_seeCharge_120 : decode cX3_seeCharge 120 = .ok (.lmul, 1) := by decide +kernel
theorem dX3_seeCharge_121 : decode cX3_seeCharge 121 = .ok ((.invokestatic 56), 3) := by decide +kernel
theorem dX3_seeCharge_124 : decode cX3_seeCharge 124 = .ok ((.aload_n 0), 1) := by decide +kernel
theorem dX3_seeCharge_125 : decode cX3_seeCharge 125 = .ok ((.getfield 40), 3) := by decide +kernel
theorem dX3_seeCharge_128 : decode cX3_seeCharge 128 = .ok ((.iload_n 1), 1) := by decide +kernel
theorem dX3_seeCharge_129 : decode cX3_seeCharge 129 = .ok ((.iload_n 2), 1) := by decide +kernel
theorem dX3_seeCharge_130 : decode cX3_seeCharge 130 = .ok ((.invokevirtual 105), 3) := by decide +kernel
theorem dX3_seeCharge_133 : decode cX3_seeCharge 133 = .ok ((.ifCond .eq 23), 3) := by decide +kernel
theorem dX3_seeCharge_136 : decode cX3_seeCharge 136 = .ok ((.aload_n 0), 1) := by decide +kernel
theorem dX3_seeCharge_137 : decode cX3_seeCharge 137 = .ok ((.getfield 33), 3) := by decide +kernel
theorem dX3_seeCharge_140 : decode cX3_seeCharge 140 = .ok ((.iload_n 1), 1) := by decide +kernel
theorem dX3_seeCharge_141 : decode cX3_seeCharge 141 = .ok ((.aload_n 0), 1) := by decide +kernel
theorem dX3_seeCharge_142 : decode cX3_seeCharge 142 = .ok ((.getfield 33), 3) := by decide +kernel
theorem dX3_seeCharge_145 : decode cX3_seeCharge 145 = .ok ((.iload_n 1), 1) := by decide +kernel
theorem dX3_seeCharge_146 : decode cX3_seeCharge 146 = .ok ((.invokestatic 99), 3) := by decide +kernel
theorem dX3_seeCharge_149 : decode cX3_seeCharge 149 = .ok ((.iconst 1), 1) := by decide +kernel
theorem dX3_seeCharge_150 : decode cX3_seeCharge 150 = .ok ((.iload_n 2), 1) := by decide +kernel
theorem dX3_seeCharge_151 : decode cX3_seeCharge 151 = .ok (.ishl, 1) := by decide +kernel
theorem dX3_seeCharge_152 : decode cX3_seeCharge 152 = .ok (.ior, 1) := by decide +kernel
theorem dX3_seeCharge_153 : decode cX3_seeCharge 153 = .ok ((.invokestatic 79), 3) := by decide +kernel
theorem dX3_seeCharge_156 : decode cX3_seeCharge 156 = .ok (.return_, 1) := by decide +kernel
def p_X3_seeCharge   (S : vSt) (a1 : Int32) (a2 : Int32) (post : vSt → Prop) : Prop := p_X3_cellOf  S a1 a2 (fun r27 S26 => p_X0_chanceOf 10 S26 a1 a2 (fun r29 S28 => p_X10_at_ 60 17 S28 r29 (fun r31 S30 => p_X10_at_ 61 17 S30 r29 (fun r33 S32 => p_X10_at 20 10 S32 a2 (fun r35 S34 => p_X10_put_ 62 80 S34 r27 r31 (fun S36 => p_X10_put_ 63 80 S36 r27 r33 (fun S37 => p_X0_ruleOf 10 S37 3 (fun r39 S38 => p_X0_partOf  S38 r35 r39 (fun r41 S40 => p_X0_ruleOf 10 S40 2 (fun r43 S42 => p_X10_put_ 64 80 S42 r27 ((r31 * (Int32.toInt64 r41)) - (r33 * (Int32.toInt64 r43))) (fun S44 => p_X10_put_ 65 80 S44 r27 (r31 * (Int32.toInt64 r35)) (fun S45 => p_X0_mayCharge 10 S45 a1 a2 (fun r47 S46 => ((r47 = false → post S46) ∧ (r47 = true → p_X10_at 66 8 S46 a1 (fun r49 S48 => p_X10_put 66 8 S48 a1 (r49 ||| ((1 : Int32) <<< (a2 &&& 31))) (fun S50 => post S50)))))))))))))))))
set_option maxHeartbeats 4000000 in
set_option maxRecDepth 100000 in
theorem c_X3_seeCharge (l : Launch) (G : vG)    {S : vSt} (a1 : Int32) (a2 : Int32) (post : vSt → Prop) (h : p_X3_seeCharge   S a1 a2 post) : Met l yX3_seeCharge (v_ws yX3_seeCharge cX3_seeCharge 10 none) (v_rm 3 105) (v_Pc G [.ref (G.1 58), .int a1, .int a2] S) (v_Qv G post) 0 0 (v_A G) := by
  refine v_start (by decide +kernel) (Nat.le_of_ble_eq_true rfl) (fun X hl C D => ?_)
  subst hl
  have C : v_Cx X G cX3_seeCharge RX3 10 (v_rm 3 105) := C
  show VJ X G S 0 [(0, .ref (G.1 58)), (1, .int a1), (2, .int a2)] []
  refine V_iload_n C 1 dX3_seeCharge_0 rfl rfl ?_
  refine V_iload_n C 2 dX3_seeCharge_1 rfl rfl ?_
  refine V_callSi (As := [.int a1, .int a2]) (rest := []) C (c_X3_cellOf (v_l X) G  _ _ _ h) KV_X3_cellOf k_RX3_89 rfl rfl rfl (Nat.le_of_ble_eq_true rfl) ⟨Nat.le_of_ble_eq_true rfl, Nat.le_of_ble_eq_true rfl⟩ dX3_seeCharge_2 (fun r27 S26 h => ?_)
  refine V_istore_n (lv' := [(0, .ref (G.1 58)), (1, .int a1), (2, .int a2), (3, .int r27)]) C [1, 2, 3, 0] dX3_seeCharge_5 rfl (by decide) rfl ?_
  refine V_aload_n C 0 dX3_seeCharge_6 rfl rfl ?_
  refine V_ga C 58 (by decide) (by decide) F_3_0 k_RX3_40 dX3_seeCharge_7 ?_
  refine V_iload_n C 1 dX3_seeCharge_10 rfl rfl ?_
  refine V_iload_n C 2 dX3_seeCharge_11 rfl rfl ?_
  refine V_callVi (As := [.int a1, .int a2]) (rest := []) C (c_X0_chanceOf (v_l X) G v_i10 _ _ _ h) 10 0 (by decide) (by decide) (by decide) rfl KV_X0_chanceOf k_RX3_93 rfl rfl rfl (Nat.le_of_ble_eq_true rfl) ⟨Nat.le_of_ble_eq_true rfl, Nat.le_of_ble_eq_true rfl⟩ dX3_seeCharge_12 (fun r29 S28 h => ?_)
  refine V_istore (lv' := [(0, .ref (G.1 58)), (1, .int a1), (2, .int a2), (3, .int r27), (4, .int r29)]) C [1, 2, 3, 4, 0] dX3_seeCharge_15 (by decide) rfl ?_
  refine V_aload_n C 0 dX3_seeCharge_17 rfl rfl ?_
  refine V_ga C 58 (by decide) (by decide) F_3_2 k_RX3_15 dX3_seeCharge_18 ?_
  refine V_iload C 4 dX3_seeCharge_21 rfl ?_
  refine V_callSNl (As := [.ref (G.1 60), .int r29]) (rest := []) C (c_X10_at_ (v_l X) G (by decide) (by decide) _ _ h) KV_X10_at_ (List.mem_of_getElem? (i := 10) rfl) rfl rfl rfl (Nat.le_of_ble_eq_true rfl) ⟨Nat.le_of_ble_eq_true rfl, Nat.le_of_ble_eq_true rfl⟩ dX3_seeCharge_23 (fun r31 S30 h => ?_)
  refine V_lstore (lv' := [(0, .ref (G.1 58)), (1, .int a1), (2, .int a2), (3, .int r27), (4, .int r29), (5, .long r31)]) C [1, 2, 3, 4, 5, 0] dX3_seeCharge_26 (by decide) rfl ?_
  refine V_aload_n C 0 dX3_seeCharge_28 rfl rfl ?_
  refine V_ga C 58 (by decide) (by decide) F_3_3 k_RX3_18 dX3_seeCharge_29 ?_
  refine V_iload C 4 dX3_seeCharge_32 rfl ?_
  refine V_callSNl (As := [.ref (G.1 61), .int r29]) (rest := []) C (c_X10_at_ (v_l X) G (by decide) (by decide) _ _ h) KV_X10_at_ (List.mem_of_getElem? (i := 10) rfl) rfl rfl rfl (Nat.le_of_ble_eq_true rfl) ⟨Nat.le_of_ble_eq_true rfl, Nat.le_of_ble_eq_true rfl⟩ dX3_seeCharge_34 (fun r33 S32 h => ?_)
  refine V_lstore (lv' := [(0, .ref (G.1 58)), (1, .int a1), (2, .int a2), (3, .int r27), (4, .int r29), (5, .long r31), (7, .long r33)]) C [1, 2, 3, 4, 5, 6, 0] dX3_seeCharge_37 (by decide) rfl ?_
  refine V_aload_n C 0 dX3_seeCharge_39 rfl rfl ?_
  refine V_ga C 58 (by decide) (by decide) F_3_0 k_RX3_40 dX3_seeCharge_40 ?_
  refine V_gr C 10 (by decide) (by decide) F_0_9 k_RX3_96 dX3_seeCharge_43 ?_
  refine V_iload_n C 2 dX3_seeCharge_46 rfl rfl ?_
  refine V_callSNi (As := [.ref (G.1 20), .int a2]) (rest := []) C (c_X10_at (v_l X) G (by decide) (by decide) _ _ h) KV_X10_at (List.mem_of_getElem? (i := 12) rfl) rfl rfl rfl (Nat.le_of_ble_eq_true rfl) ⟨Nat.le_of_ble_eq_true rfl, Nat.le_of_ble_eq_true rfl⟩ dX3_seeCharge_47 (fun r35 S34 h => ?_)
  refine V_istore (lv' := [(0, .ref (G.1 58)), (1, .int a1), (2, .int a2), (3, .int r27), (4, .int r29), (5, .long r31), (7, .long r33), (9, .int r35)]) C [1, 2, 3, 4, 5, 6, 7, 0] dX3_seeCharge_50 (by decide) rfl ?_
  refine V_aload_n C 0 dX3_seeCharge_52 rfl rfl ?_
  refine V_ga C 58 (by decide) (by decide) F_3_4 k_RX3_21 dX3_seeCharge_53 ?_
  refine V_iload_n C 3 dX3_seeCharge_56 rfl rfl ?_
  refine V_lload C 5 dX3_seeCharge_57 rfl ?_
  refine V_callSNv (As := [.ref (G.1 62), .int r27, .long r31]) (rest := []) C (c_X10_put_ (v_l X) G (by decide) (by decide) _ _ _ h) KV_X10_put_ (List.mem_of_getElem? (i := 9) rfl) rfl rfl rfl (Nat.le_of_ble_eq_true rfl) ⟨Nat.le_of_ble_eq_true rfl, Nat.le_of_ble_eq_true rfl⟩ dX3_seeCharge_59 (fun S36 h => ?_)
  refine V_aload_n C 0 dX3_seeCharge_62 rfl rfl ?_
  refine V_ga C 58 (by decide) (by decide) F_3_5 k_RX3_24 dX3_seeCharge_63 ?_
  refine V_iload_n C 3 dX3_seeCharge_66 rfl rfl ?_
  refine V_lload C 6 dX3_seeCharge_67 rfl ?_
  refine V_callSNv (As := [.ref (G.1 63), .int r27, .long r33]) (rest := []) C (c_X10_put_ (v_l X) G (by decide) (by decide) _ _ _ h) KV_X10_put_ (List.mem_of_getElem? (i := 9) rfl) rfl rfl rfl (Nat.le_of_ble_eq_true rfl) ⟨Nat.le_of_ble_eq_true rfl, Nat.le_of_ble_eq_true rfl⟩ dX3_seeCharge_69 (fun S37 h => ?_)
  refine V_aload_n C 0 dX3_seeCharge_72 rfl rfl ?_
  refine V_ga C 58 (by decide) (by decide) F_3_6 k_RX3_27 dX3_seeCharge_73 ?_
  refine V_iload_n C 3 dX3_seeCharge_76 rfl rfl ?_
  refine V_lload C 5 dX3_seeCharge_77 rfl ?_
  refine V_iload C 7 dX3_seeCharge_79 rfl ?_
  refine V_aload_n C 0 dX3_seeCharge_81 rfl rfl ?_
  refine V_ga C 58 (by decide) (by decide) F_3_0 k_RX3_40 dX3_seeCharge_82 ?_
  refine V_iconst (v := 3) C dX3_seeCharge_85 (by decide) ?_
  refine V_callVi (As := [.int 3]) (rest := [.int r35, .long r31, .int r27, .ref (G.1 64)]) C (c_X0_ruleOf (v_l X) G v_i10 _ _ h) 10 0 (by decide) (by decide) (by decide) rfl KV_X0_ruleOf k_RX3_44 rfl rfl rfl (Nat.le_of_ble_eq_true rfl) ⟨Nat.le_of_ble_eq_true rfl, Nat.le_of_ble_eq_true rfl⟩ dX3_seeCharge_86 (fun r39 S38 h => ?_)
  refine V_callSi (As := [.int r35, .int r39]) (rest := [.long r31, .int r27, .ref (G.1 64)]) C (c_X0_partOf (v_l X) G  _ _ _ h) KV_X0_partOf k_RX3_102 rfl rfl rfl (Nat.le_of_ble_eq_true rfl) ⟨Nat.le_of_ble_eq_true rfl, Nat.le_of_ble_eq_true rfl⟩ dX3_seeCharge_89 (fun r41 S40 h => ?_)
  refine V_i2l C dX3_seeCharge_92 ?_
  refine V_lmul C dX3_seeCharge_93 ?_
  refine V_lload C 6 dX3_seeCharge_94 rfl ?_
  refine V_aload_n C 0 dX3_seeCharge_96 rfl rfl ?_
  refine V_ga C 58 (by decide) (by decide) F_3_0 k_RX3_40 dX3_seeCharge_97 ?_
  refine V_iconst (v := 2) C dX3_seeCharge_100 (by decide) ?_
  refine V_callVi (As := [.int 2]) (rest := [.long r33, .long (r31 * (Int32.toInt64 r41)), .int r27, .ref (G.1 64)]) C (c_X0_ruleOf (v_l X) G v_i10 _ _ h) 10 0 (by decide) (by decide) (by decide) rfl KV_X0_ruleOf k_RX3_44 rfl rfl rfl (Nat.le_of_ble_eq_true rfl) ⟨Nat.le_of_ble_eq_true rfl, Nat.le_of_ble_eq_true rfl⟩ dX3_seeCharge_101 (fun r43 S42 h => ?_)
  refine V_i2l C dX3_seeCharge_104 ?_
  refine V_lmul C dX3_seeCharge_105 ?_
  refine V_lsub C dX3_seeCharge_106 ?_
  refine V_callSNv (As := [.ref (G.1 64), .int r27, .long ((r31 * (Int32.toInt64 r41)) - (r33 * (Int32.toInt64 r43)))]) (rest := []) C (c_X10_put_ (v_l X) G (by decide) (by decide) _ _ _ h) KV_X10_put_ (List.mem_of_getElem? (i := 9) rfl) rfl rfl rfl (Nat.le_of_ble_eq_true rfl) ⟨Nat.le_of_ble_eq_true rfl, Nat.le_of_ble_eq_true rfl⟩ dX3_seeCharge_107 (fun S44 h => ?_)
  refine V_aload_n C 0 dX3_seeCharge_110 rfl rfl ?_
  refine V_ga C 58 (by decide) (by decide) F_3_7 k_RX3_30 dX3_seeCharge_111 ?_
  refine V_iload_n C 3 dX3_seeCharge_114 rfl rfl ?_
  refine V_lload C 5 dX3_seeCharge_115 rfl ?_
  refine V_iload C 7 dX3_seeCharge_117 rfl ?_
  refine V_i2l C dX3_seeCharge_119 ?_
  refine V_lmul C dX3_seeCharge_120 ?_
  refine V_callSNv (As := [.ref (G.1 65), .int r27, .long (r31 * (Int32.toInt64 r35))]) (rest := []) C (c_X10_put_ (v_l X) G (by decide) (by decide) _ _ _ h) KV_X10_put_ (List.mem_of_getElem? (i := 9) rfl) rfl rfl rfl (Nat.le_of_ble_eq_true rfl) ⟨Nat.le_of_ble_eq_true rfl, Nat.le_of_ble_eq_true rfl⟩ dX3_seeCharge_121 (fun S45 h => ?_)
  refine V_aload_n C 0 dX3_seeCharge_124 rfl rfl ?_
  refine V_ga C 58 (by decide) (by decide) F_3_0 k_RX3_40 dX3_seeCharge_125 ?_
  refine V_iload_n C 1 dX3_seeCharge_128 rfl rfl ?_
  refine V_iload_n C 2 dX3_seeCharge_129 rfl rfl ?_
  refine V_callVz (As := [.int a1, .int a2]) (rest := []) C (c_X0_mayCharge (v_l X) G v_i10 _ _ _ h) 10 0 (by decide) (by decide) (by decide) rfl KV_X0_mayCharge k_RX3_105 rfl rfl rfl (Nat.le_of_ble_eq_true rfl) ⟨Nat.le_of_ble_eq_true rfl, Nat.le_of_ble_eq_true rfl⟩ dX3_seeCharge_130 (fun r47 S46 h => ?_)
  refine V_ifb_eq (tgt := 156) C dX3_seeCharge_133 (by decide) (fun c => ?_) (fun c => ?_)
  · have h := h.1 c
    exact V_vret C D dX3_seeCharge_156 h
  · have h := h.2 c
    refine V_aload_n C 0 dX3_seeCharge_136 rfl rfl ?_
    refine V_ga C 58 (by decide) (by decide) F_3_8 k_RX3_33 dX3_seeCharge_137 ?_
    refine V_iload_n C 1 dX3_seeCharge_140 rfl rfl ?_
    refine V_aload_n C 0 dX3_seeCharge_141 rfl rfl ?_
    refine V_ga C 58 (by decide) (by decide) F_3_8 k_RX3_33 dX3_seeCharge_142 ?_
    refine V_iload_n C 1 dX3_seeCharge_145 rfl rfl ?_
    refine V_callSNi (As := [.ref (G.1 66), .int a1]) (rest := [.int a1, .ref (G.1 66)]) C (c_X10_at (v_l X) G (by decide) (by decide) _ _ h) KV_X10_at (List.mem_of_getElem? (i := 12) rfl) rfl rfl rfl (Nat.le_of_ble_eq_true rfl) ⟨Nat.le_of_ble_eq_true rfl, Nat.le_of_ble_eq_true rfl⟩ dX3_seeCharge_146 (fun r49 S48 h => ?_)
    refine V_iconst (v := 1) C dX3_seeCharge_149 (by decide) ?_
    refine V_iload_n C 2 dX3_seeCharge_150 rfl rfl ?_
    refine V_ishl C dX3_seeCharge_151 ?_
    refine V_ior C dX3_seeCharge_152 ?_
    refine V_callSNv (As := [.ref (G.1 66), .int a1, .int (r49 ||| ((1 : Int32) <<< (a2 &&& 31)))]) (rest := []) C (c_X10_put (v_l X) G (by decide) (by decide) _ _ _ h) KV_X10_put (List.mem_of_getElem? (i := 11) rfl) rfl rfl rfl (Nat.le_of_ble_eq_true rfl) ⟨Nat.le_of_ble_eq_true rfl, Nat.le_of_ble_eq_true rfl⟩ dX3_seeCharge_153 (fun S50 h => ?_)
    exact V_vret C D dX3_seeCharge_156 h
/-! HalfAccuser$Hopes.see()V -/
theorem dX3_see_0 : decode cX3_see 0 = .ok ((.iconst 0), 1) := by decide +kernel
theorem dX3_see_1 : decode cX3_see 1 = .ok ((.istore_n 1), 1) := by decide +kernel
theorem dX3_see_2 : decode cX3_see 2 = .ok ((.iload_n 1), 1) := by decide +kernel
theorem dX3_see_3 : decode cX3_see 3 = .ok ((.bipush 17), 2) := by decide +kernel
theorem dX3_see_5 : decode cX3_see 5 = .ok ((.if_icmp .ge 38), 3) := by decide +kernel
theorem dX3_see_8 : decode cX3_see 8 = .ok ((.aload_n 0), 1) := by decide +kernel
theorem dX3_see_9 : decode cX3_see 9 = .ok ((.iload_n 1), 1) := by decide +kernel
theorem dX3_see_10 : decode cX3_see 10 = .ok ((.invokevirtual 64), 3) := by decide +kernel
theorem dX3_see_13 : decode cX3_see 13 = .ok ((.aload_n 0), 1) := by decide +kernel
theorem dX3_see_14 : decode cX3_see 14 = .ok ((.getfield 15), 3) := by decide +kernel
theorem dX3_see_17 : decode cX3_see 17 = .ok ((.iload_n 1), 1) := by decide +kernel
theorem dX3_see_18 : decode cX3_see 18 = .ok ((.aload_n 0), 1) := by decide +kernel
theorem dX3_see_19 : decode cX3_see 19 = .ok ((.invokevirtual 68), 3) := by decide +kernel
theorem dX3_see_22 : decode cX3_see 22 = .ok ((.invokestatic 56), 3) := by decide +kernel
theorem dX3_see_25 : decode cX3_see 25 = .ok ((.aload_n 0), 1) := by decide +kernel
theorem dX3_see_26 : decode cX3_see 26 = .ok ((.getfield 18), 3) := by decide +kernel
theorem dX3_see_29 : decode cX3_see 29 = .ok ((.iload_n 1), 1) := by decide +kernel
theorem dX3_see_30 : decode cX3_see 30 = .ok ((.aload_n 0), 1) := by decide +kernel
theorem dX3_see_31 : decode cX3_see 31 = .ok ((.invokevirtual 72), 3) := by decide +kernel
theorem dX3_see_34 : decode cX3_see 34 = .ok ((.invokestatic 56), 3) := by decide +kernel
theorem dX3_see_37 : decode cX3_see 37 = .ok ((.iinc 1 1), 3) := by decide +kernel
theorem dX3_see_40 : decode cX3_see 40 = .ok ((.goto (-38)), 3) := by decide +kernel
theorem dX3_see_43 : decode cX3_see 43 = .ok ((.iconst 0), 1) := by decide +kernel
theorem dX3_see_44 : decode cX3_see 44 = .ok ((.istore_n 1), 1) := by decide +kernel
theorem dX3_see_45 : decode cX3_see 45 = .ok ((.iload_n 1), 1) := by decide +kernel
theorem dX3_see_46 : decode cX3_see 46 = .ok ((.aload_n 0), 1) := by decide +kernel
theorem dX3_see_47 : decode cX3_see 47 = .ok ((.getfield 40), 3) := by decide +kernel
theorem dX3_see_50 : decode cX3_see 50 = .ok ((.getfield 75), 3) := by decide +kernel
theorem dX3_see_53 : decode cX3_see 53 = .ok ((.if_icmp .ge 43), 3) := by decide +kernel
theorem dX3_see_56 : decode cX3_see 56 = .ok ((.aload_n 0), 1) := by decide +kernel
theorem dX3_see_57 : decode cX3_see 57 = .ok ((.getfield 33), 3) := by decide +kernel
theorem dX3_see_60 : decode cX3_see 60 = .ok ((.iload_n 1), 1) := by decide +kernel
theorem dX3_see_61 : decode cX3_see 61 = .ok ((.iconst 0), 1) := by decide +kernel
theorem dX3_see_62 : decode cX3_see 62 = .ok ((.invokestatic 79), 3) := by decide +kernel
theorem dX3_see_65 : decode cX3_see 65 = .ok ((.iconst 0), 1) := by decide +kernel
theorem dX3_see_66 : decode cX3_see 66 = .ok ((.istore_n 2), 1) := by decide +kernel
theorem dX3_see_67 : decode cX3_see 67 = .ok ((.iload_n 2), 1) := by decide +kernel
theorem dX3_see_68 : decode cX3_see 68 = .ok ((.aload_n 0), 1) := by decide +kernel
theorem dX3_see_69 : decode cX3_see 69 = .ok ((.getfield 40), 3) := by decide +kernel
theorem dX3_see_72 : decode cX3_see 72 = .ok ((.getfield 82), 3) := by decide +kernel
theorem dX3_see_75 : decode cX3_see 75 = .ok ((.if_icmp .ge 15), 3) := by decide +kernel
theorem dX3_see_78 : decode cX3_see 78 = .ok ((.aload_n 0), 1) := by decide +kernel
theorem dX3_see_79 : decode cX3_see 79 = .ok ((.iload_n 1), 1) := by decide +kernel
theorem dX3_see_80 : decode cX3_see 80 = .ok ((.iload_n 2), 1) := by decide +kernel
theorem dX3_see_81 : decode cX3_see 81 = .ok ((.invokevirtual 85), 3) := by decide +kernel
theorem dX3_see_84 : decode cX3_see 84 = .ok ((.iinc 2 1), 3) := by decide +kernel
theorem dX3_see_87 : decode cX3_see 87 = .ok ((.goto (-20)), 3) := by decide +kernel
theorem dX3_see_90 : decode cX3_see 90 = .ok ((.iinc 1 1), 3) := by decide +kernel
theorem dX3_see_93 : decode cX3_see 93 = .ok ((.goto (-48)), 3) := by decide +kernel
theorem dX3_see_96 : decode cX3_see 96 = .ok (.return_, 1) := by decide +kernel
def p_X3_see_67    (K45 : vSt → Int32 → Prop) (post : vSt → Prop) : Nat → vSt → Int32 → Int32 → Prop
  | 0 => fun _ _ _ => False
  | fu67 + 1 => fun S x1 x2 => (((S.1 10 16) ≤ x2 → ∀ y26 : Int32, y26 = x1 + 1 → K45 S y26) ∧ (¬ (S.1 10 16) ≤ x2 → p_X3_seeCharge  S x1 x2 (fun S27 => ∀ y28 : Int32, y28 = x2 + 1 → (p_X3_see_67 K45 post fu67) S27 x1 y28)))
theorem e_X3_see_67    (K45 : vSt → Int32 → Prop) (post : vSt → Prop) (fu67 : Nat) (S : vSt) (x1 : Int32) (x2 : Int32) : p_X3_see_67 K45 post (fu67 + 1) S x1 x2 = ((((S.1 10 16) ≤ x2 → ∀ y26 : Int32, y26 = x1 + 1 → K45 S y26) ∧ (¬ (S.1 10 16) ≤ x2 → p_X3_seeCharge  S x1 x2 (fun S27 => ∀ y28 : Int32, y28 = x2 + 1 → (p_X3_see_67 K45 post fu67) S27 x1 y28)))) := rfl
def p_X3_see_45     (post : vSt → Prop) : Nat → vSt → Int32 → Prop
  | 0 => fun _ _ => False
  | fu45 + 1 => fun S x1 => (((S.1 10 15) ≤ x1 → post S) ∧ (¬ (S.1 10 15) ≤ x1 → p_X10_put 66 8 S x1 0 (fun S25 => ∃ fu67, p_X3_see_67 (p_X3_see_45  post fu45) post fu67 S25 x1 0)))
theorem e_X3_see_45     (post : vSt → Prop) (fu45 : Nat) (S : vSt) (x1 : Int32) : p_X3_see_45  post (fu45 + 1) S x1 = ((((S.1 10 15) ≤ x1 → post S) ∧ (¬ (S.1 10 15) ≤ x1 → p_X10_put 66 8 S x1 0 (fun S25 => ∃ fu67, p_X3_see_67 (p_X3_see_45  post fu45) post fu67 S25 x1 0)))) := rfl
def p_X3_see_2     (post : vSt → Prop) : Nat → vSt → Int32 → Prop
  | 0 => fun _ _ => False
  | fu2 + 1 => fun S x1 => ((17 ≤ x1 → ∃ fu45, p_X3_see_45  post fu45 S 0) ∧ (¬ 17 ≤ x1 → p_X3_weigh  S x1 (fun S25 => p_X3_waysToWin  S25  (fun r27 S26 => p_X10_put_ 60 17 S26 x1 r27 (fun S28 => p_X3_waysToOwe  S28  (fun r30 S29 => p_X10_put_ 61 17 S29 x1 r30 (fun S31 => ∀ y32 : Int32, y32 = x1 + 1 → (p_X3_see_2  post fu2) S31 y32)))))))
theorem e_X3_see_2     (post : vSt → Prop) (fu2 : Nat) (S : vSt) (x1 : Int32) : p_X3_see_2  post (fu2 + 1) S x1 = (((17 ≤ x1 → ∃ fu45, p_X3_see_45  post fu45 S 0) ∧ (¬ 17 ≤ x1 → p_X3_weigh  S x1 (fun S25 => p_X3_waysToWin  S25  (fun r27 S26 => p_X10_put_ 60 17 S26 x1 r27 (fun S28 => p_X3_waysToOwe  S28  (fun r30 S29 => p_X10_put_ 61 17 S29 x1 r30 (fun S31 => ∀ y32 : Int32, y32 = x1 + 1 → (p_X3_see_2  post fu2) S31 y32)))))))) := rfl
def p_X3_see   (S : vSt)  (post : vSt → Prop) : Prop := ∃ fu2, p_X3_see_2  post fu2 S 0
set_option maxHeartbeats 4000000 in
set_option maxRecDepth 100000 in
theorem q_X3_see_67 {X : vX} {G : vG}  {post : vSt → Prop} (C : v_Cx X G cX3_see RX3 3 (v_rm 4 134)) (D : v_Rx X G (v_Qv G post) none)    {K45 : vSt → Int32 → Prop} (hK45 : ∀ S x1, K45 S x1 → VJ X G S 45 [(0, .ref (G.1 58)), (1, .int x1)] []) : ∀ (fu : Nat) (S : vSt) (x1 : Int32) (x2 : Int32), p_X3_see_67 K45 post fu S x1 x2 → VJ X G S 67 [(0, .ref (G.1 58)), (1, .int x1), (2, .int x2)] [] := by
  intro fu
  induction fu with
  | zero => intro S x1 x2 h; exact absurd h id
  | succ fu ih =>
    intro S x1 x2 h
    have hK67 := ih
    rw [e_X3_see_67] at h
    refine V_iload_n C 2 dX3_see_67 rfl rfl ?_
    refine V_aload_n C 0 dX3_see_68 rfl rfl ?_
    refine V_ga C 58 (by decide) (by decide) F_3_0 k_RX3_40 dX3_see_69 ?_
    refine V_gi C 10 (by decide) (by decide) F_0_16 k_RX3_82 dX3_see_72 ?_
    refine V_icmp_ge (tgt := 90) C dX3_see_75 (by decide) (fun c => ?_) (fun c => ?_)
    · have h := h.1 c
      obtain ⟨y26, ey26⟩ : ∃ z : Int32, z = x1 + 1 := ⟨_, rfl⟩
      have h := h y26 ey26
      refine V_iinc (lv' := [(0, .ref (G.1 58)), (1, .int y26), (2, .int x2)]) C 1 [1, 0, 2] y26 dX3_see_90 rfl (by rw [ey26]; rfl) (by decide) rfl ?_
      refine V_goto (tgt := 45) C dX3_see_93 (by decide) ?_
      refine V_loc (lv' := [(0, .ref (G.1 58)), (1, .int y26)]) [0, 1] rfl ?_
      exact hK45 _ _ h
    · have h := h.2 c
      refine V_aload_n C 0 dX3_see_78 rfl rfl ?_
      refine V_iload_n C 1 dX3_see_79 rfl rfl ?_
      refine V_iload_n C 2 dX3_see_80 rfl rfl ?_
      refine V_callVv (As := [.int x1, .int x2]) (rest := []) C (c_X3_seeCharge (v_l X) G  _ _ _ h) 58 3 (by decide) (by decide) (by decide) rfl KV_X3_seeCharge k_RX3_85 rfl rfl rfl (Nat.le_of_ble_eq_true rfl) ⟨Nat.le_of_ble_eq_true rfl, Nat.le_of_ble_eq_true rfl⟩ dX3_see_81 (fun S27 h => ?_)
      obtain ⟨y28, ey28⟩ : ∃ z : Int32, z = x2 + 1 := ⟨_, rfl⟩
      have h := h y28 ey28
      refine V_iinc (lv' := [(0, .ref (G.1 58)), (1, .int x1), (2, .int y28)]) C 2 [1, 2, 0] y28 dX3_see_84 rfl (by rw [ey28]; rfl) (by decide) rfl ?_
      refine V_goto (tgt := 67) C dX3_see_87 (by decide) ?_
      exact hK67 _ _ _ h
set_option maxHeartbeats 4000000 in
set_option maxRecDepth 100000 in
theorem q_X3_see_45 {X : vX} {G : vG}  {post : vSt → Prop} (C : v_Cx X G cX3_see RX3 3 (v_rm 4 134)) (D : v_Rx X G (v_Qv G post) none)     : ∀ (fu : Nat) (S : vSt) (x1 : Int32), p_X3_see_45  post fu S x1 → VJ X G S 45 [(0, .ref (G.1 58)), (1, .int x1)] [] := by
  intro fu
  induction fu with
  | zero => intro S x1 h; exact absurd h id
  | succ fu ih =>
    intro S x1 h
    have hK45 := ih
    rw [e_X3_see_45] at h
    refine V_iload_n C 1 dX3_see_45 rfl rfl ?_
    refine V_aload_n C 0 dX3_see_46 rfl rfl ?_
    refine V_ga C 58 (by decide) (by decide) F_3_0 k_RX3_40 dX3_see_47 ?_
    refine V_gi C 10 (by decide) (by decide) F_0_15 k_RX3_75 dX3_see_50 ?_
    refine V_icmp_ge (tgt := 96) C dX3_see_53 (by decide) (fun c => ?_) (fun c => ?_)
    · have h := h.1 c
      exact V_vret C D dX3_see_96 h
    · have h := h.2 c
      refine V_aload_n C 0 dX3_see_56 rfl rfl ?_
      refine V_ga C 58 (by decide) (by decide) F_3_8 k_RX3_33 dX3_see_57 ?_
      refine V_iload_n C 1 dX3_see_60 rfl rfl ?_
      refine V_iconst (v := 0) C dX3_see_61 (by decide) ?_
      refine V_callSNv (As := [.ref (G.1 66), .int x1, .int 0]) (rest := []) C (c_X10_put (v_l X) G (by decide) (by decide) _ _ _ h) KV_X10_put (List.mem_of_getElem? (i := 11) rfl) rfl rfl rfl (Nat.le_of_ble_eq_true rfl) ⟨Nat.le_of_ble_eq_true rfl, Nat.le_of_ble_eq_true rfl⟩ dX3_see_62 (fun S25 h => ?_)
      refine V_iconst (v := 0) C dX3_see_65 (by decide) ?_
      refine V_istore_n (lv' := [(0, .ref (G.1 58)), (1, .int x1), (2, .int 0)]) C [1, 2, 0] dX3_see_66 rfl (by decide) rfl ?_
      obtain ⟨fu67, h⟩ := h
      exact q_X3_see_67 C D hK45 fu67 _ _ _ h
set_option maxHeartbeats 4000000 in
set_option maxRecDepth 100000 in
theorem q_X3_see_2 {X : vX} {G : vG}  {post : vSt → Prop} (C : v_Cx X G cX3_see RX3 3 (v_rm 4 134)) (D : v_Rx X G (v_Qv G post) none)     : ∀ (fu : Nat) (S : vSt) (x1 : Int32), p_X3_see_2  post fu S x1 → VJ X G S 2 [(0, .ref (G.1 58)), (1, .int x1)] [] := by
  intro fu
  induction fu with
  | zero => intro S x1 h; exact absurd h id
  | succ fu ih =>
    intro S x1 h
    have hK2 := ih
    rw [e_X3_see_2] at h
    refine V_iload_n C 1 dX3_see_2 rfl rfl ?_
    refine V_bipush (v := 17) C dX3_see_3 (by decide) ?_
    refine V_icmp_ge (tgt := 43) C dX3_see_5 (by decide) (fun c => ?_) (fun c => ?_)
    · have h := h.1 c
      refine V_iconst (v := 0) C dX3_see_43 (by decide) ?_
      refine V_istore_n (lv' := [(0, .ref (G.1 58)), (1, .int 0)]) C [1, 0] dX3_see_44 rfl (by decide) rfl ?_
      obtain ⟨fu45, h⟩ := h
      exact q_X3_see_45 C D  fu45 _ _ h
    · have h := h.2 c
      refine V_aload_n C 0 dX3_see_8 rfl rfl ?_
      refine V_iload_n C 1 dX3_see_9 rfl rfl ?_
      refine V_callVv (As := [.int x1]) (rest := []) C (c_X3_weigh (v_l X) G  _ _ h) 58 3 (by decide) (by decide) (by decide) rfl KV_X3_weigh k_RX3_64 rfl rfl rfl (Nat.le_of_ble_eq_true rfl) ⟨Nat.le_of_ble_eq_true rfl, Nat.le_of_ble_eq_true rfl⟩ dX3_see_10 (fun S25 h => ?_)
      refine V_aload_n C 0 dX3_see_13 rfl rfl ?_
      refine V_ga C 58 (by decide) (by decide) F_3_2 k_RX3_15 dX3_see_14 ?_
      refine V_iload_n C 1 dX3_see_17 rfl rfl ?_
      refine V_aload_n C 0 dX3_see_18 rfl rfl ?_
      refine V_callVl (As := []) (rest := [.int x1, .ref (G.1 60)]) C (c_X3_waysToWin (v_l X) G  _ h) 58 3 (by decide) (by decide) (by decide) rfl KV_X3_waysToWin k_RX3_68 rfl rfl rfl (Nat.le_of_ble_eq_true rfl) ⟨Nat.le_of_ble_eq_true rfl, Nat.le_of_ble_eq_true rfl⟩ dX3_see_19 (fun r27 S26 h => ?_)
      refine V_callSNv (As := [.ref (G.1 60), .int x1, .long r27]) (rest := []) C (c_X10_put_ (v_l X) G (by decide) (by decide) _ _ _ h) KV_X10_put_ (List.mem_of_getElem? (i := 9) rfl) rfl rfl rfl (Nat.le_of_ble_eq_true rfl) ⟨Nat.le_of_ble_eq_true rfl, Nat.le_of_ble_eq_true rfl⟩ dX3_see_22 (fun S28 h => ?_)
      refine V_aload_n C 0 dX3_see_25 rfl rfl ?_
      refine V_ga C 58 (by decide) (by decide) F_3_3 k_RX3_18 dX3_see_26 ?_
      refine V_iload_n C 1 dX3_see_29 rfl rfl ?_
      refine V_aload_n C 0 dX3_see_30 rfl rfl ?_
      refine V_callVl (As := []) (rest := [.int x1, .ref (G.1 61)]) C (c_X3_waysToOwe (v_l X) G  _ h) 58 3 (by decide) (by decide) (by decide) rfl KV_X3_waysToOwe k_RX3_72 rfl rfl rfl (Nat.le_of_ble_eq_true rfl) ⟨Nat.le_of_ble_eq_true rfl, Nat.le_of_ble_eq_true rfl⟩ dX3_see_31 (fun r30 S29 h => ?_)
      refine V_callSNv (As := [.ref (G.1 61), .int x1, .long r30]) (rest := []) C (c_X10_put_ (v_l X) G (by decide) (by decide) _ _ _ h) KV_X10_put_ (List.mem_of_getElem? (i := 9) rfl) rfl rfl rfl (Nat.le_of_ble_eq_true rfl) ⟨Nat.le_of_ble_eq_true rfl, Nat.le_of_ble_eq_true rfl⟩ dX3_see_34 (fun S31 h => ?_)
      obtain ⟨y32, ey32⟩ : ∃ z : Int32, z = x1 + 1 := ⟨_, rfl⟩
      have h := h y32 ey32
      refine V_iinc (lv' := [(0, .ref (G.1 58)), (1, .int y32)]) C 1 [1, 0] y32 dX3_see_37 rfl (by rw [ey32]; rfl) (by decide) rfl ?_
      refine V_goto (tgt := 2) C dX3_see_40 (by decide) ?_
      exact hK2 _ _ h
set_option maxHeartbeats 4000000 in
set_option maxRecDepth 100000 in
theorem c_X3_see (l : Launch) (G : vG)    {S : vSt}  (post : vSt → Prop) (h : p_X3_see   S  post) : Met l yX3_see (v_ws yX3_see cX3_see 3 none) (v_rm 4 134) (v_Pc G [.ref (G.1 58)] S) (v_Qv G post) 0 0 (v_A G) := by
  refine v_start (by decide +kernel) (Nat.le_of_ble_eq_true rfl) (fun X hl C D => ?_)
  subst hl
  have C : v_Cx X G cX3_see RX3 3 (v_rm 4 134) := C
  show VJ X G S 0 [(0, .ref (G.1 58))] []
  refine V_iconst (v := 0) C dX3_see_0 (by decide) ?_
  refine V_istore_n (lv' := [(0, .ref (G.1 58)), (1, .int 0)]) C [1, 0] dX3_see_1 rfl (by decide) rfl ?_
  obtain ⟨fu2, h⟩ := h
  exact q_X3_see_2 C D  fu2 _ _ h
/-! HalfAccuser$Hopes.gainToHave(II)J -/
theorem dX3_gainToHave_0 : decode cX3_gainToHave 0 = .ok ((.aload_n 0), 1) := by decide +kernel
theorem dX3_gainToHave_1 : decode cX3_gainToHave 1 = .ok ((.iload_n 1), 1) := by decide +kernel
theorem dX3_gainToHave_2 : decode cX3_gainToHave 2 = .ok ((.iload_n 2), 1) := by decide +kernel
theorem dX3_gainToHave_3 : decode cX3_gainToHave 3 = .ok ((.invokevirtual 112), 3) := by decide +kernel
theorem dX3_gainToHave_6 : decode cX3_gainToHave 6 = .ok ((.ifCond .eq 16), 3) := by decide +kernel
theorem dX3_gainToHave_9 : decode cX3_gainToHave 9 = .ok ((.lconst 0), 1) := by decide +kernel
theorem dX3_gainToHave_10 : decode cX3_gainToHave 10 = .ok ((.aload_n 0), 1) := by decide +kernel
theorem dX3_gainToHave_11 : decode cX3_gainToHave 11 = .ok ((.iload_n 1), 1) := by decide +kernel
theorem dX3_gainToHave_12 : decode cX3_gainToHave 12 = .ok ((.iload_n 2), 1) := by decide +kernel
theorem dX3_gainToHave_13 : decode cX3_gainToHave 13 = .ok ((.invokevirtual 115), 3) := by decide +kernel
theorem dX3_gainToHave_16 : decode cX3_gainToHave 16 = .ok ((.invokestatic 119), 3) := by decide +kernel
theorem dX3_gainToHave_19 : decode cX3_gainToHave 19 = .ok ((.goto 4), 3) := by decide +kernel
theorem dX3_gainToHave_22 : decode cX3_gainToHave 22 = .ok ((.lconst 0), 1) := by decide +kernel
theorem dX3_gainToHave_23 : decode cX3_gainToHave 23 = .ok (.lreturn, 1) := by decide +kernel
def p_X3_gainToHave   (S : vSt) (a1 : Int32) (a2 : Int32) (post : Int64 → vSt → Prop) : Prop := p_X3_isWithin  S a1 a2 (fun r6 S5 => ((r6 = false → post 0 S5) ∧ (r6 = true → p_X3_gainOf  S5 a1 a2 (fun r8 S7 => post (v_maxl 0 r8) S7))))
set_option maxHeartbeats 4000000 in
set_option maxRecDepth 100000 in
theorem c_X3_gainToHave (l : Launch) (G : vG)    {S : vSt} (a1 : Int32) (a2 : Int32) (post : Int64 → vSt → Prop) (h : p_X3_gainToHave   S a1 a2 post) : Met l yX3_gainToHave (v_ws yX3_gainToHave cX3_gainToHave 3 (some .long)) (v_rm 2 83) (v_Pc G [.ref (G.1 58), .int a1, .int a2] S) (v_Ql G post) 0 0 (v_A G) := by
  refine v_start (by decide +kernel) (Nat.le_of_ble_eq_true rfl) (fun X hl C D => ?_)
  subst hl
  have C : v_Cx X G cX3_gainToHave RX3 3 (v_rm 2 83) := C
  show VJ X G S 0 [(0, .ref (G.1 58)), (1, .int a1), (2, .int a2)] []
  refine V_aload_n C 0 dX3_gainToHave_0 rfl rfl ?_
  refine V_iload_n C 1 dX3_gainToHave_1 rfl rfl ?_
  refine V_iload_n C 2 dX3_gainToHave_2 rfl rfl ?_
  refine V_callVz (As := [.int a1, .int a2]) (rest := []) C (c_X3_isWithin (v_l X) G  _ _ _ h) 58 3 (by decide) (by decide) (by decide) rfl KV_X3_isWithin k_RX3_112 rfl rfl rfl (Nat.le_of_ble_eq_true rfl) ⟨Nat.le_of_ble_eq_true rfl, Nat.le_of_ble_eq_true rfl⟩ dX3_gainToHave_3 (fun r6 S5 h => ?_)
  refine V_ifb_eq (tgt := 22) C dX3_gainToHave_6 (by decide) (fun c => ?_) (fun c => ?_)
  · have h := h.1 c
    refine V_lconst (v := 0) C dX3_gainToHave_22 (by decide) ?_
    exact V_lret C D dX3_gainToHave_23 h
  · have h := h.2 c
    refine V_lconst (v := 0) C dX3_gainToHave_9 (by decide) ?_
    refine V_aload_n C 0 dX3_gainToHave_10 rfl rfl ?_
    refine V_iload_n C 1 dX3_gainToHave_11 rfl rfl ?_
    refine V_iload_n C 2 dX3_gainToHave_12 rfl rfl ?_
    refine V_callVl (As := [.int a1, .int a2]) (rest := [.long 0]) C (c_X3_gainOf (v_l X) G  _ _ _ h) 58 3 (by decide) (by decide) (by decide) rfl KV_X3_gainOf k_RX3_115 rfl rfl rfl (Nat.le_of_ble_eq_true rfl) ⟨Nat.le_of_ble_eq_true rfl, Nat.le_of_ble_eq_true rfl⟩ dX3_gainToHave_13 (fun r8 S7 h => ?_)
    refine V_maxl C k_RX3_119 (Nat.le_of_ble_eq_true rfl) ⟨Nat.le_of_ble_eq_true rfl, Nat.le_of_ble_eq_true rfl⟩ dX3_gainToHave_16 ?_
    refine V_goto (tgt := 23) C dX3_gainToHave_19 (by decide) ?_
    exact V_lret C D dX3_gainToHave_23 h
/-! HalfAccuser$Hopes.bestDeed(I)I -/
theorem dX3_bestDeed_0 : decode cX3_bestDeed 0 = .ok ((.iconst (-1)), 1) := by decide +kernel
theorem dX3_bestDeed_1 : decode cX3_bestDeed 1 = .ok ((.istore_n 2), 1) := by decide +kernel
theorem dX3_bestDeed_2 : decode cX3_bestDeed 2 = .ok ((.lconst 0), 1) := by decide +kernel
theorem dX3_bestDeed_3 : decode cX3_bestDeed 3 = .ok ((.lstore_n 3), 1) := by decide +kernel
theorem dX3_bestDeed_4 : decode cX3_bestDeed 4 = .ok ((.iconst 0), 1) := by decide +kernel
theorem dX3_bestDeed_5 : decode cX3_bestDeed 5 = .ok ((.istore 5), 2) := by decide +kernel
theorem dX3_bestDeed_7 : decode cX3_bestDeed 7 = .ok ((.iload 5), 2) := by decide +kernel
theorem dX3_bestDeed_9 : decode cX3_bestDeed 9 = .ok ((.aload_n 0), 1) := by decide +kernel
theorem dX3_bestDeed_10 : decode cX3_bestDeed 10 = .ok ((.getfield 40), 3) := by decide +kernel
theorem dX3_bestDeed_13 : decode cX3_bestDeed 13 = .ok ((.getfield 82), 3) := by decide +kernel
theorem dX3_bestDeed_16 : decode cX3_bestDeed 16 = .ok ((.if_icmp .ge 31), 3) := by decide +kernel
theorem dX3_bestDeed_19 : decode cX3_bestDeed 19 = .ok ((.aload_n 0), 1) := by decide +kernel
theorem dX3_bestDeed_20 : decode cX3_bestDeed 20 = .ok ((.iload_n 1), 1) := by decide +kernel
theorem dX3_bestDeed_21 : decode cX3_bestDeed 21 = .ok ((.iload 5), 2) := by decide +kernel
theorem dX3_bestDeed_23 : decode cX3_bestDeed 23 = .ok ((.invokevirtual 125), 3) := by decide +kernel
theorem dX3_bestDeed_26 : decode cX3_bestDeed 26 = .ok ((.lstore 6), 2) := by decide +kernel
theorem dX3_bestDeed_28 : decode cX3_bestDeed 28 = .ok ((.lload 6), 2) := by decide +kernel
theorem dX3_bestDeed_30 : decode cX3_bestDeed 30 = .ok ((.lload_n 3), 1) := by decide +kernel
theorem dX3_bestDeed_31 : decode cX3_bestDeed 31 = .ok (.lcmp, 1) := by decide +kernel
theorem dX3_bestDeed_32 : decode cX3_bestDeed 32 = .ok ((.ifCond .le 9), 3) := by decide +kernel
theorem dX3_bestDeed_35 : decode cX3_bestDeed 35 = .ok ((.iload 5), 2) := by decide +kernel
theorem dX3_bestDeed_37 : decode cX3_bestDeed 37 = .ok ((.istore_n 2), 1) := by decide +kernel
theorem dX3_bestDeed_38 : decode cX3_bestDeed 38 = .ok ((.lload 6), 2) := by decide +kernel
theorem dX3_bestDeed_40 : decode cX3_bestDeed 40 = .ok ((.lstore_n 3), 1) := by decide +kernel
theorem dX3_bestDeed_41 : decode cX3_bestDeed 41 = .ok ((.iinc 5 1), 3) := by decide +kernel
theorem dX3_bestDeed_44 : decode cX3_bestDeed 44 = .ok ((.goto (-37)), 3) := by decide +kernel
theorem dX3_bestDeed_47 : decode cX3_bestDeed 47 = .ok ((.iload_n 2), 1) := by decide +kernel
theorem dX3_bestDeed_48 : decode cX3_bestDeed 48 = .ok (.ireturn, 1) := by decide +kernel
def p_X3_bestDeed_41  (a1 : Int32)  (K7 : vSt → Int32 → Int64 → Int32 → Prop) (post : Int32 → vSt → Prop) (S : vSt) (x2 : Int32) (x3 : Int64) (x5 : Int32) : Prop := ∀ y9 : Int32, y9 = x5 + 1 → K7 S x2 x3 y9
def p_X3_bestDeed_7  (a1 : Int32)   (post : Int32 → vSt → Prop) : Nat → vSt → Int32 → Int64 → Int32 → Prop
  | 0 => fun _ _ _ _ => False
  | fu7 + 1 => fun S x2 x3 x5 => (((S.1 10 16) ≤ x5 → post x2 S) ∧ (¬ (S.1 10 16) ≤ x5 → p_X3_gainToHave  S a1 x5 (fun r8 S7 => ((r8 ≤ x3 → p_X3_bestDeed_41 a1 (p_X3_bestDeed_7 a1 post fu7) post S7 x2 x3 x5) ∧ (¬ r8 ≤ x3 → p_X3_bestDeed_41 a1 (p_X3_bestDeed_7 a1 post fu7) post S7 x5 r8 x5)))))
theorem e_X3_bestDeed_7  (a1 : Int32)   (post : Int32 → vSt → Prop) (fu7 : Nat) (S : vSt) (x2 : Int32) (x3 : Int64) (x5 : Int32) : p_X3_bestDeed_7 a1 post (fu7 + 1) S x2 x3 x5 = ((((S.1 10 16) ≤ x5 → post x2 S) ∧ (¬ (S.1 10 16) ≤ x5 → p_X3_gainToHave  S a1 x5 (fun r8 S7 => ((r8 ≤ x3 → p_X3_bestDeed_41 a1 (p_X3_bestDeed_7 a1 post fu7) post S7 x2 x3 x5) ∧ (¬ r8 ≤ x3 → p_X3_bestDeed_41 a1 (p_X3_bestDeed_7 a1 post fu7) post S7 x5 r8 x5)))))) := rfl
def p_X3_bestDeed   (S : vSt) (a1 : Int32) (post : Int32 → vSt → Prop) : Prop := ∃ fu7, p_X3_bestDeed_7 a1 post fu7 S (-1) 0 0
set_option maxHeartbeats 4000000 in
set_option maxRecDepth 100000 in
theorem q_X3_bestDeed_41 {X : vX} {G : vG}  {post : Int32 → vSt → Prop} (C : v_Cx X G cX3_bestDeed RX3 8 (v_rm 3 105)) (D : v_Rx X G (v_Qi G post) (some .int))  {a1 : Int32}  {K7 : vSt → Int32 → Int64 → Int32 → Prop} (hK7 : ∀ S x2 x3 x5, K7 S x2 x3 x5 → VJ X G S 7 [(0, .ref (G.1 58)), (1, .int a1), (2, .int x2), (3, .long x3), (5, .int x5)] []) : ∀ (S : vSt) (x2 : Int32) (x3 : Int64) (x5 : Int32), p_X3_bestDeed_41 a1 K7 post S x2 x3 x5 → VJ X G S 41 [(0, .ref (G.1 58)), (1, .int a1), (2, .int x2), (3, .long x3), (5, .int x5)] [] := by
  intro S x2 x3 x5 h
  obtain ⟨y9, ey9⟩ : ∃ z : Int32, z = x5 + 1 := ⟨_, rfl⟩
  have h := h y9 ey9
  refine V_iinc (lv' := [(0, .ref (G.1 58)), (1, .int a1), (2, .int x2), (3, .long x3), (5, .int y9)]) C 4 [1, 2, 3, 4, 0] y9 dX3_bestDeed_41 rfl (by rw [ey9]; rfl) (by decide) rfl ?_
  refine V_goto (tgt := 7) C dX3_bestDeed_44 (by decide) ?_
  exact hK7 _ _ _ _ h
set_option maxHeartbeats 4000000 in
set_option maxRecDepth 100000 in
theorem q_X3_bestDeed_7 {X : vX} {G : vG}  {post : Int32 → vSt → Prop} (C : v_Cx X G cX3_bestDeed RX3 8 (v_rm 3 105)) (D : v_Rx X G (v_Qi G post) (some .int))  {a1 : Int32}   : ∀ (fu : Nat) (S : vSt) (x2 : Int32) (x3 : Int64) (x5 : Int32), p_X3_bestDeed_7 a1 post fu S x2 x3 x5 → VJ X G S 7 [(0, .ref (G.1 58)), (1, .int a1), (2, .int x2), (3, .long x3), (5, .int x5)] [] := by
  intro fu
  induction fu with
  | zero => intro S x2 x3 x5 h; exact absurd h id
  | succ fu ih =>
    intro S x2 x3 x5 h
    have hK7 := ih
    rw [e_X3_bestDeed_7] at h
    refine V_iload C 4 dX3_bestDeed_7 rfl ?_
    refine V_aload_n C 0 dX3_bestDeed_9 rfl rfl ?_
    refine V_ga C 58 (by decide) (by decide) F_3_0 k_RX3_40 dX3_bestDeed_10 ?_
    refine V_gi C 10 (by decide) (by decide) F_0_16 k_RX3_82 dX3_bestDeed_13 ?_
    refine V_icmp_ge (tgt := 47) C dX3_bestDeed_16 (by decide) (fun c => ?_) (fun c => ?_)
    · have h := h.1 c
      refine V_iload_n C 2 dX3_bestDeed_47 rfl rfl ?_
      exact V_iret C D dX3_bestDeed_48 h
    · have h := h.2 c
      refine V_aload_n C 0 dX3_bestDeed_19 rfl rfl ?_
      refine V_iload_n C 1 dX3_bestDeed_20 rfl rfl ?_
      refine V_iload C 4 dX3_bestDeed_21 rfl ?_
      refine V_callVl (As := [.int a1, .int x5]) (rest := []) C (c_X3_gainToHave (v_l X) G  _ _ _ h) 58 3 (by decide) (by decide) (by decide) rfl KV_X3_gainToHave k_RX3_125 rfl rfl rfl (Nat.le_of_ble_eq_true rfl) ⟨Nat.le_of_ble_eq_true rfl, Nat.le_of_ble_eq_true rfl⟩ dX3_bestDeed_23 (fun r8 S7 h => ?_)
      refine V_lstore (lv' := [(0, .ref (G.1 58)), (1, .int a1), (2, .int x2), (3, .long x3), (5, .int x5), (6, .long r8)]) C [1, 2, 3, 4, 5, 0] dX3_bestDeed_26 (by decide) rfl ?_
      refine V_lload C 5 dX3_bestDeed_28 rfl ?_
      refine V_lload_n C 3 dX3_bestDeed_30 rfl rfl ?_
      refine V_lcmp_le (tgt := 41) C dX3_bestDeed_31 dX3_bestDeed_32 (by decide) (fun c => ?_) (fun c => ?_)
      · have h := h.1 c
        refine V_loc (lv' := [(0, .ref (G.1 58)), (1, .int a1), (2, .int x2), (3, .long x3), (5, .int x5)]) [0, 1, 2, 3, 4] rfl ?_
        exact q_X3_bestDeed_41 C D hK7 _ _ _ _ h
      · have h := h.2 c
        refine V_iload C 4 dX3_bestDeed_35 rfl ?_
        refine V_istore_n (lv' := [(0, .ref (G.1 58)), (1, .int a1), (2, .int x5), (3, .long x3), (5, .int x5), (6, .long r8)]) C [1, 2, 0, 3, 4, 5] dX3_bestDeed_37 rfl (by decide) rfl ?_
        refine V_lload C 5 dX3_bestDeed_38 rfl ?_
        refine V_lstore_n (lv' := [(0, .ref (G.1 58)), (1, .int a1), (2, .int x5), (3, .long r8), (5, .int x5), (6, .long r8)]) C [1, 2, 3, 0, 4, 5] dX3_bestDeed_40 rfl (by decide) rfl ?_
        refine V_loc (lv' := [(0, .ref (G.1 58)), (1, .int a1), (2, .int x5), (3, .long r8), (5, .int x5)]) [0, 1, 2, 3, 4] rfl ?_
        exact q_X3_bestDeed_41 C D hK7 _ _ _ _ h
set_option maxHeartbeats 4000000 in
set_option maxRecDepth 100000 in
theorem c_X3_bestDeed (l : Launch) (G : vG)    {S : vSt} (a1 : Int32) (post : Int32 → vSt → Prop) (h : p_X3_bestDeed   S a1 post) : Met l yX3_bestDeed (v_ws yX3_bestDeed cX3_bestDeed 8 (some .int)) (v_rm 3 105) (v_Pc G [.ref (G.1 58), .int a1] S) (v_Qi G post) 0 0 (v_A G) := by
  refine v_start (by decide +kernel) (Nat.le_of_ble_eq_true rfl) (fun X hl C D => ?_)
  subst hl
  have C : v_Cx X G cX3_bestDeed RX3 8 (v_rm 3 105) := C
  show VJ X G S 0 [(0, .ref (G.1 58)), (1, .int a1)] []
  refine V_iconst (v := (-1)) C dX3_bestDeed_0 (by decide) ?_
  refine V_istore_n (lv' := [(0, .ref (G.1 58)), (1, .int a1), (2, .int (-1))]) C [1, 2, 0] dX3_bestDeed_1 rfl (by decide) rfl ?_
  refine V_lconst (v := 0) C dX3_bestDeed_2 (by decide) ?_
  refine V_lstore_n (lv' := [(0, .ref (G.1 58)), (1, .int a1), (2, .int (-1)), (3, .long 0)]) C [1, 2, 3, 0] dX3_bestDeed_3 rfl (by decide) rfl ?_
  refine V_iconst (v := 0) C dX3_bestDeed_4 (by decide) ?_
  refine V_istore (lv' := [(0, .ref (G.1 58)), (1, .int a1), (2, .int (-1)), (3, .long 0), (5, .int 0)]) C [1, 2, 3, 4, 0] dX3_bestDeed_5 (by decide) rfl ?_
  obtain ⟨fu7, h⟩ := h
  exact q_X3_bestDeed_7 C D  fu7 _ _ _ _ h
/-! HalfAccuser$Hopes.bestAccuser(I)I -/
theorem dX3_bestAccuser_0 : decode cX3_bestAccuser 0 = .ok ((.iconst (-1)), 1) := by decide +kernel
theorem dX3_bestAccuser_1 : decode cX3_bestAccuser 1 = .ok ((.istore_n 2), 1) := by decide +kernel
theorem dX3_bestAccuser_2 : decode cX3_bestAccuser 2 = .ok ((.lconst 0), 1) := by decide +kernel
theorem dX3_bestAccuser_3 : decode cX3_bestAccuser 3 = .ok ((.lstore_n 3), 1) := by decide +kernel
theorem dX3_bestAccuser_4 : decode cX3_bestAccuser 4 = .ok ((.iconst 0), 1) := by decide +kernel
theorem dX3_bestAccuser_5 : decode cX3_bestAccuser 5 = .ok ((.istore 5), 2) := by decide +kernel
theorem dX3_bestAccuser_7 : decode cX3_bestAccuser 7 = .ok ((.iload 5), 2) := by decide +kernel
theorem dX3_bestAccuser_9 : decode cX3_bestAccuser 9 = .ok ((.aload_n 0), 1) := by decide +kernel
theorem dX3_bestAccuser_10 : decode cX3_bestAccuser 10 = .ok ((.getfield 40), 3) := by decide +kernel
theorem dX3_bestAccuser_13 : decode cX3_bestAccuser 13 = .ok ((.getfield 75), 3) := by decide +kernel
theorem dX3_bestAccuser_16 : decode cX3_bestAccuser 16 = .ok ((.if_icmp .ge 31), 3) := by decide +kernel
theorem dX3_bestAccuser_19 : decode cX3_bestAccuser 19 = .ok ((.aload_n 0), 1) := by decide +kernel
theorem dX3_bestAccuser_20 : decode cX3_bestAccuser 20 = .ok ((.iload 5), 2) := by decide +kernel
theorem dX3_bestAccuser_22 : decode cX3_bestAccuser 22 = .ok ((.iload_n 1), 1) := by decide +kernel
theorem dX3_bestAccuser_23 : decode cX3_bestAccuser 23 = .ok ((.invokevirtual 125), 3) := by decide +kernel
theorem dX3_bestAccuser_26 : decode cX3_bestAccuser 26 = .ok ((.lstore 6), 2) := by decide +kernel
theorem dX3_bestAccuser_28 : decode cX3_bestAccuser 28 = .ok ((.lload 6), 2) := by decide +kernel
theorem dX3_bestAccuser_30 : decode cX3_bestAccuser 30 = .ok ((.lload_n 3), 1) := by decide +kernel
theorem dX3_bestAccuser_31 : decode cX3_bestAccuser 31 = .ok (.lcmp, 1) := by decide +kernel
theorem dX3_bestAccuser_32 : decode cX3_bestAccuser 32 = .ok ((.ifCond .le 9), 3) := by decide +kernel
theorem dX3_bestAccuser_35 : decode cX3_bestAccuser 35 = .ok ((.iload 5), 2) := by decide +kernel
theorem dX3_bestAccuser_37 : decode cX3_bestAccuser 37 = .ok ((.istore_n 2), 1) := by decide +kernel
theorem dX3_bestAccuser_38 : decode cX3_bestAccuser 38 = .ok ((.lload 6), 2) := by decide +kernel
theorem dX3_bestAccuser_40 : decode cX3_bestAccuser 40 = .ok ((.lstore_n 3), 1) := by decide +kernel
theorem dX3_bestAccuser_41 : decode cX3_bestAccuser 41 = .ok ((.iinc 5 1), 3) := by decide +kernel
theorem dX3_bestAccuser_44 : decode cX3_bestAccuser 44 = .ok ((.goto (-37)), 3) := by decide +kernel
theorem dX3_bestAccuser_47 : decode cX3_bestAccuser 47 = .ok ((.iload_n 2), 1) := by decide +kernel
theorem dX3_bestAccuser_48 : decode cX3_bestAccuser 48 = .ok (.ireturn, 1) := by decide +kernel
def p_X3_bestAccuser_41  (a1 : Int32)  (K7 : vSt → Int32 → Int64 → Int32 → Prop) (post : Int32 → vSt → Prop) (S : vSt) (x2 : Int32) (x3 : Int64) (x5 : Int32) : Prop := ∀ y9 : Int32, y9 = x5 + 1 → K7 S x2 x3 y9
def p_X3_bestAccuser_7  (a1 : Int32)   (post : Int32 → vSt → Prop) : Nat → vSt → Int32 → Int64 → Int32 → Prop
  | 0 => fun _ _ _ _ => False
  | fu7 + 1 => fun S x2 x3 x5 => (((S.1 10 15) ≤ x5 → post x2 S) ∧ (¬ (S.1 10 15) ≤ x5 → p_X3_gainToHave  S x5 a1 (fun r8 S7 => ((r8 ≤ x3 → p_X3_bestAccuser_41 a1 (p_X3_bestAccuser_7 a1 post fu7) post S7 x2 x3 x5) ∧ (¬ r8 ≤ x3 → p_X3_bestAccuser_41 a1 (p_X3_bestAccuser_7 a1 post fu7) post S7 x5 r8 x5)))))
theorem e_X3_bestAccuser_7  (a1 : Int32)   (post : Int32 → vSt → Prop) (fu7 : Nat) (S : vSt) (x2 : Int32) (x3 : Int64) (x5 : Int32) : p_X3_bestAccuser_7 a1 post (fu7 + 1) S x2 x3 x5 = ((((S.1 10 15) ≤ x5 → post x2 S) ∧ (¬ (S.1 10 15) ≤ x5 → p_X3_gainToHave  S x5 a1 (fun r8 S7 => ((r8 ≤ x3 → p_X3_bestAccuser_41 a1 (p_X3_bestAccuser_7 a1 post fu7) post S7 x2 x3 x5) ∧ (¬ r8 ≤ x3 → p_X3_bestAccuser_41 a1 (p_X3_bestAccuser_7 a1 post fu7) post S7 x5 r8 x5)))))) := rfl
def p_X3_bestAccuser   (S : vSt) (a1 : Int32) (post : Int32 → vSt → Prop) : Prop := ∃ fu7, p_X3_bestAccuser_7 a1 post fu7 S (-1) 0 0
set_option maxHeartbeats 4000000 in
set_option maxRecDepth 100000 in
theorem q_X3_bestAccuser_41 {X : vX} {G : vG}  {post : Int32 → vSt → Prop} (C : v_Cx X G cX3_bestAccuser RX3 8 (v_rm 3 105)) (D : v_Rx X G (v_Qi G post) (some .int))  {a1 : Int32}  {K7 : vSt → Int32 → Int64 → Int32 → Prop} (hK7 : ∀ S x2 x3 x5, K7 S x2 x3 x5 → VJ X G S 7 [(0, .ref (G.1 58)), (1, .int a1), (2, .int x2), (3, .long x3), (5, .int x5)] []) : ∀ (S : vSt) (x2 : Int32) (x3 : Int64) (x5 : Int32), p_X3_bestAccuser_41 a1 K7 post S x2 x3 x5 → VJ X G S 41 [(0, .ref (G.1 58)), (1, .int a1), (2, .int x2), (3, .long x3), (5, .int x5)] [] := by
  intro S x2 x3 x5 h
  obtain ⟨y9, ey9⟩ : ∃ z : Int32, z = x5 + 1 := ⟨_, rfl⟩
  have h := h y9 ey9
  refine V_iinc (lv' := [(0, .ref (G.1 58)), (1, .int a1), (2, .int x2), (3, .long x3), (5, .int y9)]) C 4 [1, 2, 3, 4, 0] y9 dX3_bestAccuser_41 rfl (by rw [ey9]; rfl) (by decide) rfl ?_
  refine V_goto (tgt := 7) C dX3_bestAccuser_44 (by decide) ?_
  exact hK7 _ _ _ _ h
set_option maxHeartbeats 4000000 in
set_option maxRecDepth 100000 in
theorem q_X3_bestAccuser_7 {X : vX} {G : vG}  {post : Int32 → vSt → Prop} (C : v_Cx X G cX3_bestAccuser RX3 8 (v_rm 3 105)) (D : v_Rx X G (v_Qi G post) (some .int))  {a1 : Int32}   : ∀ (fu : Nat) (S : vSt) (x2 : Int32) (x3 : Int64) (x5 : Int32), p_X3_bestAccuser_7 a1 post fu S x2 x3 x5 → VJ X G S 7 [(0, .ref (G.1 58)), (1, .int a1), (2, .int x2), (3, .long x3), (5, .int x5)] [] := by
  intro fu
  induction fu with
  | zero => intro S x2 x3 x5 h; exact absurd h id
  | succ fu ih =>
    intro S x2 x3 x5 h
    have hK7 := ih
    rw [e_X3_bestAccuser_7] at h
    refine V_iload C 4 dX3_bestAccuser_7 rfl ?_
    refine V_aload_n C 0 dX3_bestAccuser_9 rfl rfl ?_
    refine V_ga C 58 (by decide) (by decide) F_3_0 k_RX3_40 dX3_bestAccuser_10 ?_
    refine V_gi C 10 (by decide) (by decide) F_0_15 k_RX3_75 dX3_bestAccuser_13 ?_
    refine V_icmp_ge (tgt := 47) C dX3_bestAccuser_16 (by decide) (fun c => ?_) (fun c => ?_)
    · have h := h.1 c
      refine V_iload_n C 2 dX3_bestAccuser_47 rfl rfl ?_
      exact V_iret C D dX3_bestAccuser_48 h
    · have h := h.2 c
      refine V_aload_n C 0 dX3_bestAccuser_19 rfl rfl ?_
      refine V_iload C 4 dX3_bestAccuser_20 rfl ?_
      refine V_iload_n C 1 dX3_bestAccuser_22 rfl rfl ?_
      refine V_callVl (As := [.int x5, .int a1]) (rest := []) C (c_X3_gainToHave (v_l X) G  _ _ _ h) 58 3 (by decide) (by decide) (by decide) rfl KV_X3_gainToHave k_RX3_125 rfl rfl rfl (Nat.le_of_ble_eq_true rfl) ⟨Nat.le_of_ble_eq_true rfl, Nat.le_of_ble_eq_true rfl⟩ dX3_bestAccuser_23 (fun r8 S7 h => ?_)
      refine V_lstore (lv' := [(0, .ref (G.1 58)), (1, .int a1), (2, .int x2), (3, .long x3), (5, .int x5), (6, .long r8)]) C [1, 2, 3, 4, 5, 0] dX3_bestAccuser_26 (by decide) rfl ?_
      refine V_lload C 5 dX3_bestAccuser_28 rfl ?_
      refine V_lload_n C 3 dX3_bestAccuser_30 rfl rfl ?_
      refine V_lcmp_le (tgt := 41) C dX3_bestAccuser_31 dX3_bestAccuser_32 (by decide) (fun c => ?_) (fun c => ?_)
      · have h := h.1 c
        refine V_loc (lv' := [(0, .ref (G.1 58)), (1, .int a1), (2, .int x2), (3, .long x3), (5, .int x5)]) [0, 1, 2, 3, 4] rfl ?_
        exact q_X3_bestAccuser_41 C D hK7 _ _ _ _ h
      · have h := h.2 c
        refine V_iload C 4 dX3_bestAccuser_35 rfl ?_
        refine V_istore_n (lv' := [(0, .ref (G.1 58)), (1, .int a1), (2, .int x5), (3, .long x3), (5, .int x5), (6, .long r8)]) C [1, 2, 0, 3, 4, 5] dX3_bestAccuser_37 rfl (by decide) rfl ?_
        refine V_lload C 5 dX3_bestAccuser_38 rfl ?_
        refine V_lstore_n (lv' := [(0, .ref (G.1 58)), (1, .int a1), (2, .int x5), (3, .long r8), (5, .int x5), (6, .long r8)]) C [1, 2, 3, 0, 4, 5] dX3_bestAccuser_40 rfl (by decide) rfl ?_
        refine V_loc (lv' := [(0, .ref (G.1 58)), (1, .int a1), (2, .int x5), (3, .long r8), (5, .int x5)]) [0, 1, 2, 3, 4] rfl ?_
        exact q_X3_bestAccuser_41 C D hK7 _ _ _ _ h
set_option maxHeartbeats 4000000 in
set_option maxRecDepth 100000 in
theorem c_X3_bestAccuser (l : Launch) (G : vG)    {S : vSt} (a1 : Int32) (post : Int32 → vSt → Prop) (h : p_X3_bestAccuser   S a1 post) : Met l yX3_bestAccuser (v_ws yX3_bestAccuser cX3_bestAccuser 8 (some .int)) (v_rm 3 105) (v_Pc G [.ref (G.1 58), .int a1] S) (v_Qi G post) 0 0 (v_A G) := by
  refine v_start (by decide +kernel) (Nat.le_of_ble_eq_true rfl) (fun X hl C D => ?_)
  subst hl
  have C : v_Cx X G cX3_bestAccuser RX3 8 (v_rm 3 105) := C
  show VJ X G S 0 [(0, .ref (G.1 58)), (1, .int a1)] []
  refine V_iconst (v := (-1)) C dX3_bestAccuser_0 (by decide) ?_
  refine V_istore_n (lv' := [(0, .ref (G.1 58)), (1, .int a1), (2, .int (-1))]) C [1, 2, 0] dX3_bestAccuser_1 rfl (by decide) rfl ?_
  refine V_lconst (v := 0) C dX3_bestAccuser_2 (by decide) ?_
  refine V_lstore_n (lv' := [(0, .ref (G.1 58)), (1, .int a1), (2, .int (-1)), (3, .long 0)]) C [1, 2, 3, 0] dX3_bestAccuser_3 rfl (by decide) rfl ?_
  refine V_iconst (v := 0) C dX3_bestAccuser_4 (by decide) ?_
  refine V_istore (lv' := [(0, .ref (G.1 58)), (1, .int a1), (2, .int (-1)), (3, .long 0), (5, .int 0)]) C [1, 2, 3, 4, 0] dX3_bestAccuser_5 (by decide) rfl ?_
  obtain ⟨fu7, h⟩ := h
  exact q_X3_bestAccuser_7 C D  fu7 _ _ _ _ h
/-! HalfAccuser$Hopes.sortIn(JI)V -/
theorem dX3_sortIn_0 : decode cX3_sortIn 0 = .ok ((.iload_n 3), 1) := by decide +kernel
theorem dX3_sortIn_1 : decode cX3_sortIn 1 = .ok ((.istore 4), 2) := by decide +kernel
theorem dX3_sortIn_3 : decode cX3_sortIn 3 = .ok ((.iload 4), 2) := by decide +kernel
theorem dX3_sortIn_5 : decode cX3_sortIn 5 = .ok ((.ifCond .le 45), 3) := by decide +kernel
theorem dX3_sortIn_8 : decode cX3_sortIn 8 = .ok ((.aload_n 0), 1) := by decide +kernel
theorem dX3_sortIn_9 : decode cX3_sortIn 9 = .ok ((.getfield 37), 3) := by decide +kernel
theorem dX3_sortIn_12 : decode cX3_sortIn 12 = .ok ((.iload 4), 2) := by decide +kernel
theorem dX3_sortIn_14 : decode cX3_sortIn 14 = .ok ((.iconst 1), 1) := by decide +kernel
theorem dX3_sortIn_15 : decode cX3_sortIn 15 = .ok (.isub, 1) := by decide +kernel
theorem dX3_sortIn_16 : decode cX3_sortIn 16 = .ok ((.invokestatic 60), 3) := by decide +kernel
theorem dX3_sortIn_19 : decode cX3_sortIn 19 = .ok ((.lload_n 1), 1) := by decide +kernel
theorem dX3_sortIn_20 : decode cX3_sortIn 20 = .ok (.lcmp, 1) := by decide +kernel
theorem dX3_sortIn_21 : decode cX3_sortIn 21 = .ok ((.ifCond .ge 29), 3) := by decide +kernel
theorem dX3_sortIn_24 : decode cX3_sortIn 24 = .ok ((.aload_n 0), 1) := by decide +kernel
theorem dX3_sortIn_25 : decode cX3_sortIn 25 = .ok ((.getfield 37), 3) := by decide +kernel
theorem dX3_sortIn_28 : decode cX3_sortIn 28 = .ok ((.iload 4), 2) := by decide +kernel
theorem dX3_sortIn_30 : decode cX3_sortIn 30 = .ok ((.aload_n 0), 1) := by decide +kernel
theorem dX3_sortIn_31 : decode cX3_sortIn 31 = .ok ((.getfield 37), 3) := by decide +kernel
theorem dX3_sortIn_34 : decode cX3_sortIn 34 = .ok ((.iload 4), 2) := by decide +kernel
theorem dX3_sortIn_36 : decode cX3_sortIn 36 = .ok ((.iconst 1), 1) := by decide +kernel
theorem dX3_sortIn_37 : decode cX3_sortIn 37 = .ok (.isub, 1) := by decide +kernel
theorem dX3_sortIn_38 : decode cX3_sortIn 38 = .ok ((.invokestatic 60), 3) := by decide +kernel
theorem dX3_sortIn_41 : decode cX3_sortIn 41 = .ok ((.invokestatic 56), 3) := by decide +kernel
theorem dX3_sortIn_44 : decode cX3_sortIn 44 = .ok ((.iinc 4 (-1)), 3) := by decide +kernel
theorem dX3_sortIn_47 : decode cX3_sortIn 47 = .ok ((.goto (-44)), 3) := by decide +kernel
theorem dX3_sortIn_50 : decode cX3_sortIn 50 = .ok ((.aload_n 0), 1) := by decide +kernel
theorem dX3_sortIn_51 : decode cX3_sortIn 51 = .ok ((.getfield 37), 3) := by decide +kernel
theorem dX3_sortIn_54 : decode cX3_sortIn 54 = .ok ((.iload 4), 2) := by decide +kernel
theorem dX3_sortIn_56 : decode cX3_sortIn 56 = .ok ((.lload_n 1), 1) := by decide +kernel
theorem dX3_sortIn_57 : decode cX3_sortIn 57 = .ok ((.invokestatic 56), 3) := by decide +kernel
theorem dX3_sortIn_60 : decode cX3_sortIn 60 = .ok (.return_, 1) := by decide +kernel
def p_X3_sortIn_50  (a1 : Int64) (a3 : Int32)   (post : vSt → Prop) (S : vSt) (x4 : Int32) : Prop := p_X10_put_ 67 10 S x4 a1 (fun S15 => post S15)
def p_X3_sortIn_3  (a1 : Int64) (a3 : Int32)   (post : vSt → Prop) : Nat → vSt → Int32 → Prop
  | 0 => fun _ _ => False
  | fu3 + 1 => fun S x4 => ((x4 ≤ 0 → p_X3_sortIn_50 a1 a3 post S x4) ∧ (¬ x4 ≤ 0 → p_X10_at_ 67 10 S (x4 - 1) (fun r16 S15 => ((a1 ≤ r16 → p_X3_sortIn_50 a1 a3 post S15 x4) ∧ (¬ a1 ≤ r16 → p_X10_at_ 67 10 S15 (x4 - 1) (fun r18 S17 => p_X10_put_ 67 10 S17 x4 r18 (fun S19 => ∀ y20 : Int32, y20 = x4 + (-1) → (p_X3_sortIn_3 a1 a3 post fu3) S19 y20)))))))
theorem e_X3_sortIn_3  (a1 : Int64) (a3 : Int32)   (post : vSt → Prop) (fu3 : Nat) (S : vSt) (x4 : Int32) : p_X3_sortIn_3 a1 a3 post (fu3 + 1) S x4 = (((x4 ≤ 0 → p_X3_sortIn_50 a1 a3 post S x4) ∧ (¬ x4 ≤ 0 → p_X10_at_ 67 10 S (x4 - 1) (fun r16 S15 => ((a1 ≤ r16 → p_X3_sortIn_50 a1 a3 post S15 x4) ∧ (¬ a1 ≤ r16 → p_X10_at_ 67 10 S15 (x4 - 1) (fun r18 S17 => p_X10_put_ 67 10 S17 x4 r18 (fun S19 => ∀ y20 : Int32, y20 = x4 + (-1) → (p_X3_sortIn_3 a1 a3 post fu3) S19 y20)))))))) := rfl
def p_X3_sortIn   (S : vSt) (a1 : Int64) (a3 : Int32) (post : vSt → Prop) : Prop := ∃ fu3, p_X3_sortIn_3 a1 a3 post fu3 S a3
set_option maxHeartbeats 4000000 in
set_option maxRecDepth 100000 in
theorem q_X3_sortIn_50 {X : vX} {G : vG}  {post : vSt → Prop} (C : v_Cx X G cX3_sortIn RX3 5 (v_rm 1 63)) (D : v_Rx X G (v_Qv G post) none)  {a1 : Int64} {a3 : Int32}   : ∀ (S : vSt) (x4 : Int32), p_X3_sortIn_50 a1 a3 post S x4 → VJ X G S 50 [(0, .ref (G.1 58)), (1, .long a1), (4, .int x4)] [] := by
  intro S x4 h
  refine V_aload_n C 0 dX3_sortIn_50 rfl rfl ?_
  refine V_ga C 58 (by decide) (by decide) F_3_9 k_RX3_37 dX3_sortIn_51 ?_
  refine V_iload C 2 dX3_sortIn_54 rfl ?_
  refine V_lload_n C 1 dX3_sortIn_56 rfl rfl ?_
  refine V_callSNv (As := [.ref (G.1 67), .int x4, .long a1]) (rest := []) C (c_X10_put_ (v_l X) G (by decide) (by decide) _ _ _ h) KV_X10_put_ (List.mem_of_getElem? (i := 9) rfl) rfl rfl rfl (Nat.le_of_ble_eq_true rfl) ⟨Nat.le_of_ble_eq_true rfl, Nat.le_of_ble_eq_true rfl⟩ dX3_sortIn_57 (fun S15 h => ?_)
  exact V_vret C D dX3_sortIn_60 h
set_option maxHeartbeats 4000000 in
set_option maxRecDepth 100000 in
theorem q_X3_sortIn_3 {X : vX} {G : vG}  {post : vSt → Prop} (C : v_Cx X G cX3_sortIn RX3 5 (v_rm 1 63)) (D : v_Rx X G (v_Qv G post) none)  {a1 : Int64} {a3 : Int32}   : ∀ (fu : Nat) (S : vSt) (x4 : Int32), p_X3_sortIn_3 a1 a3 post fu S x4 → VJ X G S 3 [(0, .ref (G.1 58)), (1, .long a1), (4, .int x4)] [] := by
  intro fu
  induction fu with
  | zero => intro S x4 h; exact absurd h id
  | succ fu ih =>
    intro S x4 h
    have hK3 := ih
    rw [e_X3_sortIn_3] at h
    refine V_iload C 2 dX3_sortIn_3 rfl ?_
    refine V_if_le (tgt := 50) C dX3_sortIn_5 (by decide) (fun c => ?_) (fun c => ?_)
    · have h := h.1 c
      exact q_X3_sortIn_50 C D  _ _ h
    · have h := h.2 c
      refine V_aload_n C 0 dX3_sortIn_8 rfl rfl ?_
      refine V_ga C 58 (by decide) (by decide) F_3_9 k_RX3_37 dX3_sortIn_9 ?_
      refine V_iload C 2 dX3_sortIn_12 rfl ?_
      refine V_iconst (v := 1) C dX3_sortIn_14 (by decide) ?_
      refine V_isub C dX3_sortIn_15 ?_
      refine V_callSNl (As := [.ref (G.1 67), .int (x4 - 1)]) (rest := []) C (c_X10_at_ (v_l X) G (by decide) (by decide) _ _ h) KV_X10_at_ (List.mem_of_getElem? (i := 10) rfl) rfl rfl rfl (Nat.le_of_ble_eq_true rfl) ⟨Nat.le_of_ble_eq_true rfl, Nat.le_of_ble_eq_true rfl⟩ dX3_sortIn_16 (fun r16 S15 h => ?_)
      refine V_lload_n C 1 dX3_sortIn_19 rfl rfl ?_
      refine V_lcmp_ge (tgt := 50) C dX3_sortIn_20 dX3_sortIn_21 (by decide) (fun c => ?_) (fun c => ?_)
      · have h := h.1 c
        exact q_X3_sortIn_50 C D  _ _ h
      · have h := h.2 c
        refine V_aload_n C 0 dX3_sortIn_24 rfl rfl ?_
        refine V_ga C 58 (by decide) (by decide) F_3_9 k_RX3_37 dX3_sortIn_25 ?_
        refine V_iload C 2 dX3_sortIn_28 rfl ?_
        refine V_aload_n C 0 dX3_sortIn_30 rfl rfl ?_
        refine V_ga C 58 (by decide) (by decide) F_3_9 k_RX3_37 dX3_sortIn_31 ?_
        refine V_iload C 2 dX3_sortIn_34 rfl ?_
        refine V_iconst (v := 1) C dX3_sortIn_36 (by decide) ?_
        refine V_isub C dX3_sortIn_37 ?_
        refine V_callSNl (As := [.ref (G.1 67), .int (x4 - 1)]) (rest := [.int x4, .ref (G.1 67)]) C (c_X10_at_ (v_l X) G (by decide) (by decide) _ _ h) KV_X10_at_ (List.mem_of_getElem? (i := 10) rfl) rfl rfl rfl (Nat.le_of_ble_eq_true rfl) ⟨Nat.le_of_ble_eq_true rfl, Nat.le_of_ble_eq_true rfl⟩ dX3_sortIn_38 (fun r18 S17 h => ?_)
        refine V_callSNv (As := [.ref (G.1 67), .int x4, .long r18]) (rest := []) C (c_X10_put_ (v_l X) G (by decide) (by decide) _ _ _ h) KV_X10_put_ (List.mem_of_getElem? (i := 9) rfl) rfl rfl rfl (Nat.le_of_ble_eq_true rfl) ⟨Nat.le_of_ble_eq_true rfl, Nat.le_of_ble_eq_true rfl⟩ dX3_sortIn_41 (fun S19 h => ?_)
        obtain ⟨y20, ey20⟩ : ∃ z : Int32, z = x4 + (-1) := ⟨_, rfl⟩
        have h := h y20 ey20
        refine V_iinc (lv' := [(0, .ref (G.1 58)), (1, .long a1), (4, .int y20)]) C 2 [1, 2, 0] y20 dX3_sortIn_44 rfl (by rw [ey20]; rfl) (by decide) rfl ?_
        refine V_goto (tgt := 3) C dX3_sortIn_47 (by decide) ?_
        exact hK3 _ _ h
set_option maxHeartbeats 4000000 in
set_option maxRecDepth 100000 in
theorem c_X3_sortIn (l : Launch) (G : vG)    {S : vSt} (a1 : Int64) (a3 : Int32) (post : vSt → Prop) (h : p_X3_sortIn   S a1 a3 post) : Met l yX3_sortIn (v_ws yX3_sortIn cX3_sortIn 5 none) (v_rm 1 63) (v_Pc G [.ref (G.1 58), .long a1, .int a3] S) (v_Qv G post) 0 0 (v_A G) := by
  refine v_start (by decide +kernel) (Nat.le_of_ble_eq_true rfl) (fun X hl C D => ?_)
  subst hl
  have C : v_Cx X G cX3_sortIn RX3 5 (v_rm 1 63) := C
  show VJ X G S 0 [(0, .ref (G.1 58)), (1, .long a1), (3, .int a3)] []
  refine V_iload_n C 2 dX3_sortIn_0 rfl rfl ?_
  refine V_istore (lv' := [(0, .ref (G.1 58)), (1, .long a1), (3, .int a3), (4, .int a3)]) C [1, 2, 3, 0] dX3_sortIn_1 (by decide) rfl ?_
  refine V_loc (lv' := [(0, .ref (G.1 58)), (1, .long a1), (4, .int a3)]) [0, 1, 3] rfl ?_
  obtain ⟨fu3, h⟩ := h
  exact q_X3_sortIn_3 C D  fu3 _ _ h
/-! HalfAccuser$Hopes.bestSum(II)J -/
theorem dX3_bestSum_0 : decode cX3_bestSum 0 = .ok ((.aload_n 0), 1) := by decide +kernel
theorem dX3_bestSum_1 : decode cX3_bestSum 1 = .ok ((.getfield 37), 3) := by decide +kernel
theorem dX3_bestSum_4 : decode cX3_bestSum 4 = .ok ((.lconst 0), 1) := by decide +kernel
theorem dX3_bestSum_5 : decode cX3_bestSum 5 = .ok ((.invokestatic 50), 3) := by decide +kernel
theorem dX3_bestSum_8 : decode cX3_bestSum 8 = .ok ((.iconst 0), 1) := by decide +kernel
theorem dX3_bestSum_9 : decode cX3_bestSum 9 = .ok ((.istore_n 3), 1) := by decide +kernel
theorem dX3_bestSum_10 : decode cX3_bestSum 10 = .ok ((.iload_n 3), 1) := by decide +kernel
theorem dX3_bestSum_11 : decode cX3_bestSum 11 = .ok ((.aload_n 0), 1) := by decide +kernel
theorem dX3_bestSum_12 : decode cX3_bestSum 12 = .ok ((.getfield 40), 3) := by decide +kernel
theorem dX3_bestSum_15 : decode cX3_bestSum 15 = .ok ((.getfield 82), 3) := by decide +kernel
theorem dX3_bestSum_18 : decode cX3_bestSum 18 = .ok ((.if_icmp .ge 20), 3) := by decide +kernel
theorem dX3_bestSum_21 : decode cX3_bestSum 21 = .ok ((.aload_n 0), 1) := by decide +kernel
theorem dX3_bestSum_22 : decode cX3_bestSum 22 = .ok ((.aload_n 0), 1) := by decide +kernel
theorem dX3_bestSum_23 : decode cX3_bestSum 23 = .ok ((.iload_n 1), 1) := by decide +kernel
theorem dX3_bestSum_24 : decode cX3_bestSum 24 = .ok ((.iload_n 3), 1) := by decide +kernel
theorem dX3_bestSum_25 : decode cX3_bestSum 25 = .ok ((.invokevirtual 125), 3) := by decide +kernel
theorem dX3_bestSum_28 : decode cX3_bestSum 28 = .ok ((.iload_n 3), 1) := by decide +kernel
theorem dX3_bestSum_29 : decode cX3_bestSum 29 = .ok ((.invokevirtual 128), 3) := by decide +kernel
theorem dX3_bestSum_32 : decode cX3_bestSum 32 = .ok ((.iinc 3 1), 3) := by decide +kernel
theorem dX3_bestSum_35 : decode cX3_bestSum 35 = .ok ((.goto (-25)), 3) := by decide +kernel
theorem dX3_bestSum_38 : decode cX3_bestSum 38 = .ok ((.lconst 0), 1) := by decide +kernel
theorem dX3_bestSum_39 : decode cX3_bestSum 39 = .ok ((.lstore_n 3), 1) := by decide +kernel
theorem dX3_bestSum_40 : decode cX3_bestSum 40 = .ok ((.iconst 0), 1) := by decide +kernel
theorem dX3_bestSum_41 : decode cX3_bestSum 41 = .ok ((.istore 5), 2) := by decide +kernel
theorem dX3_bestSum_43 : decode cX3_bestSum 43 = .ok ((.iload 5), 2) := by decide +kernel
theorem dX3_bestSum_45 : decode cX3_bestSum 45 = .ok ((.iload_n 2), 1) := by decide +kernel
theorem dX3_bestSum_46 : decode cX3_bestSum 46 = .ok ((.if_icmp .ge 21), 3) := by decide +kernel
theorem dX3_bestSum_49 : decode cX3_bestSum 49 = .ok ((.lload_n 3), 1) := by decide +kernel
theorem dX3_bestSum_50 : decode cX3_bestSum 50 = .ok ((.aload_n 0), 1) := by decide +kernel
theorem dX3_bestSum_51 : decode cX3_bestSum 51 = .ok ((.getfield 37), 3) := by decide +kernel
theorem dX3_bestSum_54 : decode cX3_bestSum 54 = .ok ((.iload 5), 2) := by decide +kernel
theorem dX3_bestSum_56 : decode cX3_bestSum 56 = .ok ((.invokestatic 60), 3) := by decide +kernel
theorem dX3_bestSum_59 : decode cX3_bestSum 59 = .ok (.ladd, 1) := by decide +kernel
theorem dX3_bestSum_60 : decode cX3_bestSum 60 = .ok ((.lstore_n 3), 1) := by decide +kernel
theorem dX3_bestSum_61 : decode cX3_bestSum 61 = .ok ((.iinc 5 1), 3) := by decide +kernel
theorem dX3_bestSum_64 : decode cX3_bestSum 64 = .ok ((.goto (-21)), 3) := by decide +kernel
theorem dX3_bestSum_67 : decode cX3_bestSum 67 = .ok ((.lload_n 3), 1) := by decide +kernel
theorem dX3_bestSum_68 : decode cX3_bestSum 68 = .ok (.lreturn, 1) := by decide +kernel
def p_X3_bestSum_43  (a1 : Int32) (a2 : Int32)   (post : Int64 → vSt → Prop) : Nat → vSt → Int64 → Int32 → Prop
  | 0 => fun _ _ _ => False
  | fu43 + 1 => fun S x3 x5 => ((a2 ≤ x5 → post x3 S) ∧ (¬ a2 ≤ x5 → p_X10_at_ 67 10 S x5 (fun r20 S19 => ∀ y21 : Int64, y21 = (x3 + r20) → ∀ y22 : Int32, y22 = x5 + 1 → (p_X3_bestSum_43 a1 a2 post fu43) S19 y21 y22)))
theorem e_X3_bestSum_43  (a1 : Int32) (a2 : Int32)   (post : Int64 → vSt → Prop) (fu43 : Nat) (S : vSt) (x3 : Int64) (x5 : Int32) : p_X3_bestSum_43 a1 a2 post (fu43 + 1) S x3 x5 = (((a2 ≤ x5 → post x3 S) ∧ (¬ a2 ≤ x5 → p_X10_at_ 67 10 S x5 (fun r20 S19 => ∀ y21 : Int64, y21 = (x3 + r20) → ∀ y22 : Int32, y22 = x5 + 1 → (p_X3_bestSum_43 a1 a2 post fu43) S19 y21 y22)))) := rfl
def p_X3_bestSum_10  (a1 : Int32) (a2 : Int32)   (post : Int64 → vSt → Prop) : Nat → vSt → Int32 → Prop
  | 0 => fun _ _ => False
  | fu10 + 1 => fun S x3 => (((S.1 10 16) ≤ x3 → ∃ fu43, p_X3_bestSum_43 a1 a2 post fu43 S 0 0) ∧ (¬ (S.1 10 16) ≤ x3 → p_X3_gainToHave  S a1 x3 (fun r20 S19 => p_X3_sortIn  S19 r20 x3 (fun S21 => ∀ y22 : Int32, y22 = x3 + 1 → (p_X3_bestSum_10 a1 a2 post fu10) S21 y22))))
theorem e_X3_bestSum_10  (a1 : Int32) (a2 : Int32)   (post : Int64 → vSt → Prop) (fu10 : Nat) (S : vSt) (x3 : Int32) : p_X3_bestSum_10 a1 a2 post (fu10 + 1) S x3 = ((((S.1 10 16) ≤ x3 → ∃ fu43, p_X3_bestSum_43 a1 a2 post fu43 S 0 0) ∧ (¬ (S.1 10 16) ≤ x3 → p_X3_gainToHave  S a1 x3 (fun r20 S19 => p_X3_sortIn  S19 r20 x3 (fun S21 => ∀ y22 : Int32, y22 = x3 + 1 → (p_X3_bestSum_10 a1 a2 post fu10) S21 y22))))) := rfl
def p_X3_bestSum   (S : vSt) (a1 : Int32) (a2 : Int32) (post : Int64 → vSt → Prop) : Prop := p_J7_fill_d0a16 67 10 S 0 (fun S18 => ∃ fu10, p_X3_bestSum_10 a1 a2 post fu10 S18 0)
set_option maxHeartbeats 4000000 in
set_option maxRecDepth 100000 in
theorem q_X3_bestSum_43 {X : vX} {G : vG}  {post : Int64 → vSt → Prop} (C : v_Cx X G cX3_bestSum RX3 6 (v_rm 3 105)) (D : v_Rx X G (v_Ql G post) (some .long))  {a1 : Int32} {a2 : Int32}   : ∀ (fu : Nat) (S : vSt) (x3 : Int64) (x5 : Int32), p_X3_bestSum_43 a1 a2 post fu S x3 x5 → VJ X G S 43 [(0, .ref (G.1 58)), (2, .int a2), (3, .long x3), (5, .int x5)] [] := by
  intro fu
  induction fu with
  | zero => intro S x3 x5 h; exact absurd h id
  | succ fu ih =>
    intro S x3 x5 h
    have hK43 := ih
    rw [e_X3_bestSum_43] at h
    refine V_iload C 3 dX3_bestSum_43 rfl ?_
    refine V_iload_n C 1 dX3_bestSum_45 rfl rfl ?_
    refine V_icmp_ge (tgt := 67) C dX3_bestSum_46 (by decide) (fun c => ?_) (fun c => ?_)
    · have h := h.1 c
      refine V_lload_n C 2 dX3_bestSum_67 rfl rfl ?_
      exact V_lret C D dX3_bestSum_68 h
    · have h := h.2 c
      refine V_lload_n C 2 dX3_bestSum_49 rfl rfl ?_
      refine V_aload_n C 0 dX3_bestSum_50 rfl rfl ?_
      refine V_ga C 58 (by decide) (by decide) F_3_9 k_RX3_37 dX3_bestSum_51 ?_
      refine V_iload C 3 dX3_bestSum_54 rfl ?_
      refine V_callSNl (As := [.ref (G.1 67), .int x5]) (rest := [.long x3]) C (c_X10_at_ (v_l X) G (by decide) (by decide) _ _ h) KV_X10_at_ (List.mem_of_getElem? (i := 10) rfl) rfl rfl rfl (Nat.le_of_ble_eq_true rfl) ⟨Nat.le_of_ble_eq_true rfl, Nat.le_of_ble_eq_true rfl⟩ dX3_bestSum_56 (fun r20 S19 h => ?_)
      refine V_ladd C dX3_bestSum_59 ?_
      refine V_topl (fun y21 ey21 => ?_)
      have h := h y21 ey21
      refine V_lstore_n (lv' := [(0, .ref (G.1 58)), (2, .int a2), (3, .long y21), (5, .int x5)]) C [1, 2, 0, 3] dX3_bestSum_60 rfl (by decide) rfl ?_
      obtain ⟨y22, ey22⟩ : ∃ z : Int32, z = x5 + 1 := ⟨_, rfl⟩
      have h := h y22 ey22
      refine V_iinc (lv' := [(0, .ref (G.1 58)), (2, .int a2), (3, .long y21), (5, .int y22)]) C 3 [1, 2, 3, 0] y22 dX3_bestSum_61 rfl (by rw [ey22]; rfl) (by decide) rfl ?_
      refine V_goto (tgt := 43) C dX3_bestSum_64 (by decide) ?_
      exact hK43 _ _ _ h
set_option maxHeartbeats 4000000 in
set_option maxRecDepth 100000 in
theorem q_X3_bestSum_10 {X : vX} {G : vG}  {post : Int64 → vSt → Prop} (C : v_Cx X G cX3_bestSum RX3 6 (v_rm 3 105)) (D : v_Rx X G (v_Ql G post) (some .long))  {a1 : Int32} {a2 : Int32}   : ∀ (fu : Nat) (S : vSt) (x3 : Int32), p_X3_bestSum_10 a1 a2 post fu S x3 → VJ X G S 10 [(0, .ref (G.1 58)), (1, .int a1), (2, .int a2), (3, .int x3)] [] := by
  intro fu
  induction fu with
  | zero => intro S x3 h; exact absurd h id
  | succ fu ih =>
    intro S x3 h
    have hK10 := ih
    rw [e_X3_bestSum_10] at h
    refine V_iload_n C 3 dX3_bestSum_10 rfl rfl ?_
    refine V_aload_n C 0 dX3_bestSum_11 rfl rfl ?_
    refine V_ga C 58 (by decide) (by decide) F_3_0 k_RX3_40 dX3_bestSum_12 ?_
    refine V_gi C 10 (by decide) (by decide) F_0_16 k_RX3_82 dX3_bestSum_15 ?_
    refine V_icmp_ge (tgt := 38) C dX3_bestSum_18 (by decide) (fun c => ?_) (fun c => ?_)
    · have h := h.1 c
      refine V_lconst (v := 0) C dX3_bestSum_38 (by decide) ?_
      refine V_lstore_n (lv' := [(0, .ref (G.1 58)), (1, .int a1), (2, .int a2), (3, .long 0)]) C [1, 2, 3, 0] dX3_bestSum_39 rfl (by decide) rfl ?_
      refine V_iconst (v := 0) C dX3_bestSum_40 (by decide) ?_
      refine V_istore (lv' := [(0, .ref (G.1 58)), (1, .int a1), (2, .int a2), (3, .long 0), (5, .int 0)]) C [1, 2, 3, 4, 0] dX3_bestSum_41 (by decide) rfl ?_
      refine V_loc (lv' := [(0, .ref (G.1 58)), (2, .int a2), (3, .long 0), (5, .int 0)]) [0, 2, 3, 4] rfl ?_
      obtain ⟨fu43, h⟩ := h
      exact q_X3_bestSum_43 C D  fu43 _ _ _ h
    · have h := h.2 c
      refine V_aload_n C 0 dX3_bestSum_21 rfl rfl ?_
      refine V_aload_n C 0 dX3_bestSum_22 rfl rfl ?_
      refine V_iload_n C 1 dX3_bestSum_23 rfl rfl ?_
      refine V_iload_n C 3 dX3_bestSum_24 rfl rfl ?_
      refine V_callVl (As := [.int a1, .int x3]) (rest := [.ref (G.1 58)]) C (c_X3_gainToHave (v_l X) G  _ _ _ h) 58 3 (by decide) (by decide) (by decide) rfl KV_X3_gainToHave k_RX3_125 rfl rfl rfl (Nat.le_of_ble_eq_true rfl) ⟨Nat.le_of_ble_eq_true rfl, Nat.le_of_ble_eq_true rfl⟩ dX3_bestSum_25 (fun r20 S19 h => ?_)
      refine V_iload_n C 3 dX3_bestSum_28 rfl rfl ?_
      refine V_callVv (As := [.long r20, .int x3]) (rest := []) C (c_X3_sortIn (v_l X) G  _ _ _ h) 58 3 (by decide) (by decide) (by decide) rfl KV_X3_sortIn k_RX3_128 rfl rfl rfl (Nat.le_of_ble_eq_true rfl) ⟨Nat.le_of_ble_eq_true rfl, Nat.le_of_ble_eq_true rfl⟩ dX3_bestSum_29 (fun S21 h => ?_)
      obtain ⟨y22, ey22⟩ : ∃ z : Int32, z = x3 + 1 := ⟨_, rfl⟩
      have h := h y22 ey22
      refine V_iinc (lv' := [(0, .ref (G.1 58)), (1, .int a1), (2, .int a2), (3, .int y22)]) C 3 [1, 2, 3, 0] y22 dX3_bestSum_32 rfl (by rw [ey22]; rfl) (by decide) rfl ?_
      refine V_goto (tgt := 10) C dX3_bestSum_35 (by decide) ?_
      exact hK10 _ _ h
set_option maxHeartbeats 4000000 in
set_option maxRecDepth 100000 in
theorem c_X3_bestSum (l : Launch) (G : vG)    {S : vSt} (a1 : Int32) (a2 : Int32) (post : Int64 → vSt → Prop) (h : p_X3_bestSum   S a1 a2 post) : Met l yX3_bestSum (v_ws yX3_bestSum cX3_bestSum 6 (some .long)) (v_rm 3 105) (v_Pc G [.ref (G.1 58), .int a1, .int a2] S) (v_Ql G post) 0 0 (v_A G) := by
  refine v_start (by decide +kernel) (Nat.le_of_ble_eq_true rfl) (fun X hl C D => ?_)
  subst hl
  have C : v_Cx X G cX3_bestSum RX3 6 (v_rm 3 105) := C
  show VJ X G S 0 [(0, .ref (G.1 58)), (1, .int a1), (2, .int a2)] []
  refine V_aload_n C 0 dX3_bestSum_0 rfl rfl ?_
  refine V_ga C 58 (by decide) (by decide) F_3_9 k_RX3_37 dX3_bestSum_1 ?_
  refine V_lconst (v := 0) C dX3_bestSum_4 (by decide) ?_
  refine V_callSv (As := [.ref (G.1 67), .long 0]) (rest := []) C (c_J7_fill_d0a16 (v_l X) G (by decide) (by decide) _ _ h) KV_J7_fill_d0a16 k_RX3_50 rfl rfl rfl (Nat.le_of_ble_eq_true rfl) ⟨Nat.le_of_ble_eq_true rfl, Nat.le_of_ble_eq_true rfl⟩ dX3_bestSum_5 (fun S18 h => ?_)
  refine V_iconst (v := 0) C dX3_bestSum_8 (by decide) ?_
  refine V_istore_n (lv' := [(0, .ref (G.1 58)), (1, .int a1), (2, .int a2), (3, .int 0)]) C [1, 2, 3, 0] dX3_bestSum_9 rfl (by decide) rfl ?_
  obtain ⟨fu10, h⟩ := h
  exact q_X3_bestSum_10 C D  fu10 _ _ h
/-! HalfAccuser$Hopes.worstDeed(I)I -/
theorem dX3_worstDeed_0 : decode cX3_worstDeed 0 = .ok ((.iconst (-1)), 1) := by decide +kernel
theorem dX3_worstDeed_1 : decode cX3_worstDeed 1 = .ok ((.istore_n 2), 1) := by decide +kernel
theorem dX3_worstDeed_2 : decode cX3_worstDeed 2 = .ok ((.lconst 0), 1) := by decide +kernel
theorem dX3_worstDeed_3 : decode cX3_worstDeed 3 = .ok ((.lstore_n 3), 1) := by decide +kernel
theorem dX3_worstDeed_4 : decode cX3_worstDeed 4 = .ok ((.iconst 0), 1) := by decide +kernel
theorem dX3_worstDeed_5 : decode cX3_worstDeed 5 = .ok ((.istore 5), 2) := by decide +kernel
theorem dX3_worstDeed_7 : decode cX3_worstDeed 7 = .ok ((.iload 5), 2) := by decide +kernel
theorem dX3_worstDeed_9 : decode cX3_worstDeed 9 = .ok ((.aload_n 0), 1) := by decide +kernel
theorem dX3_worstDeed_10 : decode cX3_worstDeed 10 = .ok ((.getfield 40), 3) := by decide +kernel
theorem dX3_worstDeed_13 : decode cX3_worstDeed 13 = .ok ((.getfield 82), 3) := by decide +kernel
theorem dX3_worstDeed_16 : decode cX3_worstDeed 16 = .ok ((.if_icmp .ge 47), 3) := by decide +kernel
theorem dX3_worstDeed_19 : decode cX3_worstDeed 19 = .ok ((.aload_n 0), 1) := by decide +kernel
theorem dX3_worstDeed_20 : decode cX3_worstDeed 20 = .ok ((.getfield 40), 3) := by decide +kernel
theorem dX3_worstDeed_23 : decode cX3_worstDeed 23 = .ok ((.iload_n 1), 1) := by decide +kernel
theorem dX3_worstDeed_24 : decode cX3_worstDeed 24 = .ok ((.iload 5), 2) := by decide +kernel
theorem dX3_worstDeed_26 : decode cX3_worstDeed 26 = .ok ((.invokevirtual 135), 3) := by decide +kernel
theorem dX3_worstDeed_29 : decode cX3_worstDeed 29 = .ok ((.ifCond .eq 12), 3) := by decide +kernel
theorem dX3_worstDeed_32 : decode cX3_worstDeed 32 = .ok ((.aload_n 0), 1) := by decide +kernel
theorem dX3_worstDeed_33 : decode cX3_worstDeed 33 = .ok ((.iload 5), 2) := by decide +kernel
theorem dX3_worstDeed_35 : decode cX3_worstDeed 35 = .ok ((.invokevirtual 138), 3) := by decide +kernel
theorem dX3_worstDeed_38 : decode cX3_worstDeed 38 = .ok ((.goto 4), 3) := by decide +kernel
theorem dX3_worstDeed_41 : decode cX3_worstDeed 41 = .ok ((.lconst 0), 1) := by decide +kernel
theorem dX3_worstDeed_42 : decode cX3_worstDeed 42 = .ok ((.lstore 6), 2) := by decide +kernel
theorem dX3_worstDeed_44 : decode cX3_worstDeed 44 = .ok ((.lload 6), 2) := by decide +kernel
theorem dX3_worstDeed_46 : decode cX3_worstDeed 46 = .ok ((.lload_n 3), 1) := by decide +kernel
theorem dX3_worstDeed_47 : decode cX3_worstDeed 47 = .ok (.lcmp, 1) := by decide +kernel
theorem dX3_worstDeed_48 : decode cX3_worstDeed 48 = .ok ((.ifCond .le 9), 3) := by decide +kernel
theorem dX3_worstDeed_51 : decode cX3_worstDeed 51 = .ok ((.iload 5), 2) := by decide +kernel
theorem dX3_worstDeed_53 : decode cX3_worstDeed 53 = .ok ((.istore_n 2), 1) := by decide +kernel
theorem dX3_worstDeed_54 : decode cX3_worstDeed 54 = .ok ((.lload 6), 2) := by decide +kernel
theorem dX3_worstDeed_56 : decode cX3_worstDeed 56 = .ok ((.lstore_n 3), 1) := by decide +kernel
theorem dX3_worstDeed_57 : decode cX3_worstDeed 57 = .ok ((.iinc 5 1), 3) := by decide +kernel
theorem dX3_worstDeed_60 : decode cX3_worstDeed 60 = .ok ((.goto (-53)), 3) := by decide +kernel
theorem dX3_worstDeed_63 : decode cX3_worstDeed 63 = .ok ((.iload_n 2), 1) := by decide +kernel
theorem dX3_worstDeed_64 : decode cX3_worstDeed 64 = .ok (.ireturn, 1) := by decide +kernel
def p_X3_worstDeed_57  (a1 : Int32)  (K7 : vSt → Int32 → Int64 → Int32 → Prop) (post : Int32 → vSt → Prop) (S : vSt) (x2 : Int32) (x3 : Int64) (x5 : Int32) : Prop := ∀ y13 : Int32, y13 = x5 + 1 → K7 S x2 x3 y13
def p_X3_worstDeed_42  (a1 : Int32)  (K7 : vSt → Int32 → Int64 → Int32 → Prop) (post : Int32 → vSt → Prop) (S : vSt) (x2 : Int32) (x3 : Int64) (x5 : Int32) (s0 : Int64) : Prop := ((s0 ≤ x3 → p_X3_worstDeed_57 a1 K7 post S x2 x3 x5) ∧ (¬ s0 ≤ x3 → p_X3_worstDeed_57 a1 K7 post S x5 s0 x5))
def p_X3_worstDeed_7  (a1 : Int32)   (post : Int32 → vSt → Prop) : Nat → vSt → Int32 → Int64 → Int32 → Prop
  | 0 => fun _ _ _ _ => False
  | fu7 + 1 => fun S x2 x3 x5 => (((S.1 10 16) ≤ x5 → post x2 S) ∧ (¬ (S.1 10 16) ≤ x5 → p_X0_isOwn 10 S a1 x5 (fun r12 S11 => ((r12 = false → p_X3_worstDeed_42 a1 (p_X3_worstDeed_7 a1 post fu7) post S11 x2 x3 x5 0) ∧ (r12 = true → p_X3_worstLoss  S11 x5 (fun r14 S13 => p_X3_worstDeed_42 a1 (p_X3_worstDeed_7 a1 post fu7) post S13 x2 x3 x5 r14))))))
theorem e_X3_worstDeed_7  (a1 : Int32)   (post : Int32 → vSt → Prop) (fu7 : Nat) (S : vSt) (x2 : Int32) (x3 : Int64) (x5 : Int32) : p_X3_worstDeed_7 a1 post (fu7 + 1) S x2 x3 x5 = ((((S.1 10 16) ≤ x5 → post x2 S) ∧ (¬ (S.1 10 16) ≤ x5 → p_X0_isOwn 10 S a1 x5 (fun r12 S11 => ((r12 = false → p_X3_worstDeed_42 a1 (p_X3_worstDeed_7 a1 post fu7) post S11 x2 x3 x5 0) ∧ (r12 = true → p_X3_worstLoss  S11 x5 (fun r14 S13 => p_X3_worstDeed_42 a1 (p_X3_worstDeed_7 a1 post fu7) post S13 x2 x3 x5 r14))))))) := rfl
def p_X3_worstDeed   (S : vSt) (a1 : Int32) (post : Int32 → vSt → Prop) : Prop := ∃ fu7, p_X3_worstDeed_7 a1 post fu7 S (-1) 0 0
set_option maxHeartbeats 4000000 in
set_option maxRecDepth 100000 in
theorem q_X3_worstDeed_57 {X : vX} {G : vG}  {post : Int32 → vSt → Prop} (C : v_Cx X G cX3_worstDeed RX3 8 (v_rm 3 107)) (D : v_Rx X G (v_Qi G post) (some .int))  {a1 : Int32}  {K7 : vSt → Int32 → Int64 → Int32 → Prop} (hK7 : ∀ S x2 x3 x5, K7 S x2 x3 x5 → VJ X G S 7 [(0, .ref (G.1 58)), (1, .int a1), (2, .int x2), (3, .long x3), (5, .int x5)] []) : ∀ (S : vSt) (x2 : Int32) (x3 : Int64) (x5 : Int32), p_X3_worstDeed_57 a1 K7 post S x2 x3 x5 → VJ X G S 57 [(0, .ref (G.1 58)), (1, .int a1), (2, .int x2), (3, .long x3), (5, .int x5)] [] := by
  intro S x2 x3 x5 h
  obtain ⟨y13, ey13⟩ : ∃ z : Int32, z = x5 + 1 := ⟨_, rfl⟩
  have h := h y13 ey13
  refine V_iinc (lv' := [(0, .ref (G.1 58)), (1, .int a1), (2, .int x2), (3, .long x3), (5, .int y13)]) C 4 [1, 2, 3, 4, 0] y13 dX3_worstDeed_57 rfl (by rw [ey13]; rfl) (by decide) rfl ?_
  refine V_goto (tgt := 7) C dX3_worstDeed_60 (by decide) ?_
  exact hK7 _ _ _ _ h
set_option maxHeartbeats 4000000 in
set_option maxRecDepth 100000 in
theorem q_X3_worstDeed_42 {X : vX} {G : vG}  {post : Int32 → vSt → Prop} (C : v_Cx X G cX3_worstDeed RX3 8 (v_rm 3 107)) (D : v_Rx X G (v_Qi G post) (some .int))  {a1 : Int32}  {K7 : vSt → Int32 → Int64 → Int32 → Prop} (hK7 : ∀ S x2 x3 x5, K7 S x2 x3 x5 → VJ X G S 7 [(0, .ref (G.1 58)), (1, .int a1), (2, .int x2), (3, .long x3), (5, .int x5)] []) : ∀ (S : vSt) (x2 : Int32) (x3 : Int64) (x5 : Int32) (s0 : Int64), p_X3_worstDeed_42 a1 K7 post S x2 x3 x5 s0 → VJ X G S 42 [(0, .ref (G.1 58)), (1, .int a1), (2, .int x2), (3, .long x3), (5, .int x5)] [.long s0] := by
  intro S x2 x3 x5 s0 h
  refine V_lstore (lv' := [(0, .ref (G.1 58)), (1, .int a1), (2, .int x2), (3, .long x3), (5, .int x5), (6, .long s0)]) C [1, 2, 3, 4, 5, 0] dX3_worstDeed_42 (by decide) rfl ?_
  refine V_lload C 5 dX3_worstDeed_44 rfl ?_
  refine V_lload_n C 3 dX3_worstDeed_46 rfl rfl ?_
  refine V_lcmp_le (tgt := 57) C dX3_worstDeed_47 dX3_worstDeed_48 (by decide) (fun c => ?_) (fun c => ?_)
  · have h := h.1 c
    refine V_loc (lv' := [(0, .ref (G.1 58)), (1, .int a1), (2, .int x2), (3, .long x3), (5, .int x5)]) [0, 1, 2, 3, 4] rfl ?_
    exact q_X3_worstDeed_57 C D hK7 _ _ _ _ h
  · have h := h.2 c
    refine V_iload C 4 dX3_worstDeed_51 rfl ?_
    refine V_istore_n (lv' := [(0, .ref (G.1 58)), (1, .int a1), (2, .int x5), (3, .long x3), (5, .int x5), (6, .long s0)]) C [1, 2, 0, 3, 4, 5] dX3_worstDeed_53 rfl (by decide) rfl ?_
    refine V_lload C 5 dX3_worstDeed_54 rfl ?_
    refine V_lstore_n (lv' := [(0, .ref (G.1 58)), (1, .int a1), (2, .int x5), (3, .long s0), (5, .int x5), (6, .long s0)]) C [1, 2, 3, 0, 4, 5] dX3_worstDeed_56 rfl (by decide) rfl ?_
    refine V_loc (lv' := [(0, .ref (G.1 58)), (1, .int a1), (2, .int x5), (3, .long s0), (5, .int x5)]) [0, 1, 2, 3, 4] rfl ?_
    exact q_X3_worstDeed_57 C D hK7 _ _ _ _ h
set_option maxHeartbeats 4000000 in
set_option maxRecDepth 100000 in
theorem q_X3_worstDeed_7 {X : vX} {G : vG}  {post : Int32 → vSt → Prop} (C : v_Cx X G cX3_worstDeed RX3 8 (v_rm 3 107)) (D : v_Rx X G (v_Qi G post) (some .int))  {a1 : Int32}   : ∀ (fu : Nat) (S : vSt) (x2 : Int32) (x3 : Int64) (x5 : Int32), p_X3_worstDeed_7 a1 post fu S x2 x3 x5 → VJ X G S 7 [(0, .ref (G.1 58)), (1, .int a1), (2, .int x2), (3, .long x3), (5, .int x5)] [] := by
  intro fu
  induction fu with
  | zero => intro S x2 x3 x5 h; exact absurd h id
  | succ fu ih =>
    intro S x2 x3 x5 h
    have hK7 := ih
    rw [e_X3_worstDeed_7] at h
    refine V_iload C 4 dX3_worstDeed_7 rfl ?_
    refine V_aload_n C 0 dX3_worstDeed_9 rfl rfl ?_
    refine V_ga C 58 (by decide) (by decide) F_3_0 k_RX3_40 dX3_worstDeed_10 ?_
    refine V_gi C 10 (by decide) (by decide) F_0_16 k_RX3_82 dX3_worstDeed_13 ?_
    refine V_icmp_ge (tgt := 63) C dX3_worstDeed_16 (by decide) (fun c => ?_) (fun c => ?_)
    · have h := h.1 c
      refine V_iload_n C 2 dX3_worstDeed_63 rfl rfl ?_
      exact V_iret C D dX3_worstDeed_64 h
    · have h := h.2 c
      refine V_aload_n C 0 dX3_worstDeed_19 rfl rfl ?_
      refine V_ga C 58 (by decide) (by decide) F_3_0 k_RX3_40 dX3_worstDeed_20 ?_
      refine V_iload_n C 1 dX3_worstDeed_23 rfl rfl ?_
      refine V_iload C 4 dX3_worstDeed_24 rfl ?_
      refine V_callVz (As := [.int a1, .int x5]) (rest := []) C (c_X0_isOwn (v_l X) G v_i10 _ _ _ h) 10 0 (by decide) (by decide) (by decide) rfl KV_X0_isOwn k_RX3_135 rfl rfl rfl (Nat.le_of_ble_eq_true rfl) ⟨Nat.le_of_ble_eq_true rfl, Nat.le_of_ble_eq_true rfl⟩ dX3_worstDeed_26 (fun r12 S11 h => ?_)
      refine V_ifb_eq (tgt := 41) C dX3_worstDeed_29 (by decide) (fun c => ?_) (fun c => ?_)
      · have h := h.1 c
        refine V_lconst (v := 0) C dX3_worstDeed_41 (by decide) ?_
        exact q_X3_worstDeed_42 C D hK7 _ _ _ _ _ h
      · have h := h.2 c
        refine V_aload_n C 0 dX3_worstDeed_32 rfl rfl ?_
        refine V_iload C 4 dX3_worstDeed_33 rfl ?_
        refine V_callVl (As := [.int x5]) (rest := []) C (c_X3_worstLoss (v_l X) G  _ _ h) 58 3 (by decide) (by decide) (by decide) rfl KV_X3_worstLoss k_RX3_138 rfl rfl rfl (Nat.le_of_ble_eq_true rfl) ⟨Nat.le_of_ble_eq_true rfl, Nat.le_of_ble_eq_true rfl⟩ dX3_worstDeed_35 (fun r14 S13 h => ?_)
        refine V_goto (tgt := 42) C dX3_worstDeed_38 (by decide) ?_
        exact q_X3_worstDeed_42 C D hK7 _ _ _ _ _ h
set_option maxHeartbeats 4000000 in
set_option maxRecDepth 100000 in
theorem c_X3_worstDeed (l : Launch) (G : vG)    {S : vSt} (a1 : Int32) (post : Int32 → vSt → Prop) (h : p_X3_worstDeed   S a1 post) : Met l yX3_worstDeed (v_ws yX3_worstDeed cX3_worstDeed 8 (some .int)) (v_rm 3 107) (v_Pc G [.ref (G.1 58), .int a1] S) (v_Qi G post) 0 0 (v_A G) := by
  refine v_start (by decide +kernel) (Nat.le_of_ble_eq_true rfl) (fun X hl C D => ?_)
  subst hl
  have C : v_Cx X G cX3_worstDeed RX3 8 (v_rm 3 107) := C
  show VJ X G S 0 [(0, .ref (G.1 58)), (1, .int a1)] []
  refine V_iconst (v := (-1)) C dX3_worstDeed_0 (by decide) ?_
  refine V_istore_n (lv' := [(0, .ref (G.1 58)), (1, .int a1), (2, .int (-1))]) C [1, 2, 0] dX3_worstDeed_1 rfl (by decide) rfl ?_
  refine V_lconst (v := 0) C dX3_worstDeed_2 (by decide) ?_
  refine V_lstore_n (lv' := [(0, .ref (G.1 58)), (1, .int a1), (2, .int (-1)), (3, .long 0)]) C [1, 2, 3, 0] dX3_worstDeed_3 rfl (by decide) rfl ?_
  refine V_iconst (v := 0) C dX3_worstDeed_4 (by decide) ?_
  refine V_istore (lv' := [(0, .ref (G.1 58)), (1, .int a1), (2, .int (-1)), (3, .long 0), (5, .int 0)]) C [1, 2, 3, 4, 0] dX3_worstDeed_5 (by decide) rfl ?_
  obtain ⟨fu7, h⟩ := h
  exact q_X3_worstDeed_7 C D  fu7 _ _ _ _ h
/-! HalfAccuser$Hopes.mildestAccuser(I)I -/
theorem dX3_mildestAccuser_0 : decode cX3_mildestAccuser 0 = .ok ((.iconst (-1)), 1) := by decide +kernel
theorem dX3_mildestAccuser_1 : decode cX3_mildestAccuser 1 = .ok ((.istore_n 2), 1) := by decide +kernel
theorem dX3_mildestAccuser_2 : decode cX3_mildestAccuser 2 = .ok ((.lconst 0), 1) := by decide +kernel
theorem dX3_mildestAccuser_3 : decode cX3_mildestAccuser 3 = .ok ((.lstore_n 3), 1) := by decide +kernel
theorem dX3_mildestAccuser_4 : decode cX3_mildestAccuser 4 = .ok ((.iconst 0), 1) := by decide +kernel
theorem dX3_mildestAccuser_5 : decode cX3_mildestAccuser 5 = .ok ((.istore 5), 2) := by decide +kernel
theorem dX3_mildestAccuser_7 : decode cX3_mildestAccuser 7 = .ok ((.iload 5), 2) := by decide +kernel
theorem dX3_mildestAccuser_9 : decode cX3_mildestAccuser 9 = .ok ((.aload_n 0), 1) := by decide +kernel
theorem dX3_mildestAccuser_10 : decode cX3_mildestAccuser 10 = .ok ((.getfield 40), 3) := by decide +kernel
theorem dX3_mildestAccuser_13 : decode cX3_mildestAccuser 13 = .ok ((.getfield 75), 3) := by decide +kernel
theorem dX3_mildestAccuser_16 : decode cX3_mildestAccuser 16 = .ok ((.if_icmp .ge 47), 3) := by decide +kernel
theorem dX3_mildestAccuser_19 : decode cX3_mildestAccuser 19 = .ok ((.aload_n 0), 1) := by decide +kernel
theorem dX3_mildestAccuser_20 : decode cX3_mildestAccuser 20 = .ok ((.iload 5), 2) := by decide +kernel
theorem dX3_mildestAccuser_22 : decode cX3_mildestAccuser 22 = .ok ((.iload_n 1), 1) := by decide +kernel
theorem dX3_mildestAccuser_23 : decode cX3_mildestAccuser 23 = .ok ((.invokevirtual 112), 3) := by decide +kernel
theorem dX3_mildestAccuser_26 : decode cX3_mildestAccuser 26 = .ok ((.ifCond .eq 31), 3) := by decide +kernel
theorem dX3_mildestAccuser_29 : decode cX3_mildestAccuser 29 = .ok ((.iload_n 2), 1) := by decide +kernel
theorem dX3_mildestAccuser_30 : decode cX3_mildestAccuser 30 = .ok ((.iconst (-1)), 1) := by decide +kernel
theorem dX3_mildestAccuser_31 : decode cX3_mildestAccuser 31 = .ok ((.if_icmp .eq 15), 3) := by decide +kernel
theorem dX3_mildestAccuser_34 : decode cX3_mildestAccuser 34 = .ok ((.aload_n 0), 1) := by decide +kernel
theorem dX3_mildestAccuser_35 : decode cX3_mildestAccuser 35 = .ok ((.iload 5), 2) := by decide +kernel
theorem dX3_mildestAccuser_37 : decode cX3_mildestAccuser 37 = .ok ((.iload_n 1), 1) := by decide +kernel
theorem dX3_mildestAccuser_38 : decode cX3_mildestAccuser 38 = .ok ((.invokevirtual 132), 3) := by decide +kernel
theorem dX3_mildestAccuser_41 : decode cX3_mildestAccuser 41 = .ok ((.lload_n 3), 1) := by decide +kernel
theorem dX3_mildestAccuser_42 : decode cX3_mildestAccuser 42 = .ok (.lcmp, 1) := by decide +kernel
theorem dX3_mildestAccuser_43 : decode cX3_mildestAccuser 43 = .ok ((.ifCond .ge 14), 3) := by decide +kernel
theorem dX3_mildestAccuser_46 : decode cX3_mildestAccuser 46 = .ok ((.iload 5), 2) := by decide +kernel
theorem dX3_mildestAccuser_48 : decode cX3_mildestAccuser 48 = .ok ((.istore_n 2), 1) := by decide +kernel
theorem dX3_mildestAccuser_49 : decode cX3_mildestAccuser 49 = .ok ((.aload_n 0), 1) := by decide +kernel
theorem dX3_mildestAccuser_50 : decode cX3_mildestAccuser 50 = .ok ((.iload 5), 2) := by decide +kernel
theorem dX3_mildestAccuser_52 : decode cX3_mildestAccuser 52 = .ok ((.iload_n 1), 1) := by decide +kernel
theorem dX3_mildestAccuser_53 : decode cX3_mildestAccuser 53 = .ok ((.invokevirtual 132), 3) := by decide +kernel
theorem dX3_mildestAccuser_56 : decode cX3_mildestAccuser 56 = .ok ((.lstore_n 3), 1) := by decide +kernel
theorem dX3_mildestAccuser_57 : decode cX3_mildestAccuser 57 = .ok ((.iinc 5 1), 3) := by decide +kernel
theorem dX3_mildestAccuser_60 : decode cX3_mildestAccuser 60 = .ok ((.goto (-53)), 3) := by decide +kernel
theorem dX3_mildestAccuser_63 : decode cX3_mildestAccuser 63 = .ok ((.iload_n 2), 1) := by decide +kernel
theorem dX3_mildestAccuser_64 : decode cX3_mildestAccuser 64 = .ok (.ireturn, 1) := by decide +kernel
def p_X3_mildestAccuser_57  (a1 : Int32)  (K7 : vSt → Int32 → Int64 → Int32 → Prop) (post : Int32 → vSt → Prop) (S : vSt) (x2 : Int32) (x3 : Int64) (x5 : Int32) : Prop := ∀ y21 : Int32, y21 = x5 + 1 → K7 S x2 x3 y21
def p_X3_mildestAccuser_46  (a1 : Int32)  (K7 : vSt → Int32 → Int64 → Int32 → Prop) (post : Int32 → vSt → Prop) (S : vSt) (x5 : Int32) : Prop := p_X3_lossOf  S x5 a1 (fun r22 S21 => p_X3_mildestAccuser_57 a1 K7 post S21 x5 r22 x5)
def p_X3_mildestAccuser_7  (a1 : Int32)   (post : Int32 → vSt → Prop) : Nat → vSt → Int32 → Int64 → Int32 → Prop
  | 0 => fun _ _ _ _ => False
  | fu7 + 1 => fun S x2 x3 x5 => (((S.1 10 15) ≤ x5 → post x2 S) ∧ (¬ (S.1 10 15) ≤ x5 → p_X3_isWithin  S x5 a1 (fun r20 S19 => ((r20 = false → p_X3_mildestAccuser_57 a1 (p_X3_mildestAccuser_7 a1 post fu7) post S19 x2 x3 x5) ∧ (r20 = true → ((x2 = (-1) → p_X3_mildestAccuser_46 a1 (p_X3_mildestAccuser_7 a1 post fu7) post S19 x5) ∧ (¬ x2 = (-1) → p_X3_lossOf  S19 x5 a1 (fun r22 S21 => ((x3 ≤ r22 → p_X3_mildestAccuser_57 a1 (p_X3_mildestAccuser_7 a1 post fu7) post S21 x2 x3 x5) ∧ (¬ x3 ≤ r22 → p_X3_mildestAccuser_46 a1 (p_X3_mildestAccuser_7 a1 post fu7) post S21 x5))))))))))
theorem e_X3_mildestAccuser_7  (a1 : Int32)   (post : Int32 → vSt → Prop) (fu7 : Nat) (S : vSt) (x2 : Int32) (x3 : Int64) (x5 : Int32) : p_X3_mildestAccuser_7 a1 post (fu7 + 1) S x2 x3 x5 = ((((S.1 10 15) ≤ x5 → post x2 S) ∧ (¬ (S.1 10 15) ≤ x5 → p_X3_isWithin  S x5 a1 (fun r20 S19 => ((r20 = false → p_X3_mildestAccuser_57 a1 (p_X3_mildestAccuser_7 a1 post fu7) post S19 x2 x3 x5) ∧ (r20 = true → ((x2 = (-1) → p_X3_mildestAccuser_46 a1 (p_X3_mildestAccuser_7 a1 post fu7) post S19 x5) ∧ (¬ x2 = (-1) → p_X3_lossOf  S19 x5 a1 (fun r22 S21 => ((x3 ≤ r22 → p_X3_mildestAccuser_57 a1 (p_X3_mildestAccuser_7 a1 post fu7) post S21 x2 x3 x5) ∧ (¬ x3 ≤ r22 → p_X3_mildestAccuser_46 a1 (p_X3_mildestAccuser_7 a1 post fu7) post S21 x5))))))))))) := rfl
def p_X3_mildestAccuser   (S : vSt) (a1 : Int32) (post : Int32 → vSt → Prop) : Prop := ∃ fu7, p_X3_mildestAccuser_7 a1 post fu7 S (-1) 0 0
set_option maxHeartbeats 4000000 in
set_option maxRecDepth 100000 in
theorem q_X3_mildestAccuser_57 {X : vX} {G : vG}  {post : Int32 → vSt → Prop} (C : v_Cx X G cX3_mildestAccuser RX3 6 (v_rm 2 83)) (D : v_Rx X G (v_Qi G post) (some .int))  {a1 : Int32}  {K7 : vSt → Int32 → Int64 → Int32 → Prop} (hK7 : ∀ S x2 x3 x5, K7 S x2 x3 x5 → VJ X G S 7 [(0, .ref (G.1 58)), (1, .int a1), (2, .int x2), (3, .long x3), (5, .int x5)] []) : ∀ (S : vSt) (x2 : Int32) (x3 : Int64) (x5 : Int32), p_X3_mildestAccuser_57 a1 K7 post S x2 x3 x5 → VJ X G S 57 [(0, .ref (G.1 58)), (1, .int a1), (2, .int x2), (3, .long x3), (5, .int x5)] [] := by
  intro S x2 x3 x5 h
  obtain ⟨y21, ey21⟩ : ∃ z : Int32, z = x5 + 1 := ⟨_, rfl⟩
  have h := h y21 ey21
  refine V_iinc (lv' := [(0, .ref (G.1 58)), (1, .int a1), (2, .int x2), (3, .long x3), (5, .int y21)]) C 4 [1, 2, 3, 4, 0] y21 dX3_mildestAccuser_57 rfl (by rw [ey21]; rfl) (by decide) rfl ?_
  refine V_goto (tgt := 7) C dX3_mildestAccuser_60 (by decide) ?_
  exact hK7 _ _ _ _ h
set_option maxHeartbeats 4000000 in
set_option maxRecDepth 100000 in
theorem q_X3_mildestAccuser_46 {X : vX} {G : vG}  {post : Int32 → vSt → Prop} (C : v_Cx X G cX3_mildestAccuser RX3 6 (v_rm 2 83)) (D : v_Rx X G (v_Qi G post) (some .int))  {a1 : Int32}  {K7 : vSt → Int32 → Int64 → Int32 → Prop} (hK7 : ∀ S x2 x3 x5, K7 S x2 x3 x5 → VJ X G S 7 [(0, .ref (G.1 58)), (1, .int a1), (2, .int x2), (3, .long x3), (5, .int x5)] []) : ∀ (S : vSt) (x5 : Int32), p_X3_mildestAccuser_46 a1 K7 post S x5 → VJ X G S 46 [(0, .ref (G.1 58)), (1, .int a1), (5, .int x5)] [] := by
  intro S x5 h
  refine V_iload C 2 dX3_mildestAccuser_46 rfl ?_
  refine V_istore_n (lv' := [(0, .ref (G.1 58)), (1, .int a1), (2, .int x5), (5, .int x5)]) C [1, 2, 0, 3] dX3_mildestAccuser_48 rfl (by decide) rfl ?_
  refine V_aload_n C 0 dX3_mildestAccuser_49 rfl rfl ?_
  refine V_iload C 3 dX3_mildestAccuser_50 rfl ?_
  refine V_iload_n C 1 dX3_mildestAccuser_52 rfl rfl ?_
  refine V_callVl (As := [.int x5, .int a1]) (rest := []) C (c_X3_lossOf (v_l X) G  _ _ _ h) 58 3 (by decide) (by decide) (by decide) rfl KV_X3_lossOf k_RX3_132 rfl rfl rfl (Nat.le_of_ble_eq_true rfl) ⟨Nat.le_of_ble_eq_true rfl, Nat.le_of_ble_eq_true rfl⟩ dX3_mildestAccuser_53 (fun r22 S21 h => ?_)
  refine V_lstore_n (lv' := [(0, .ref (G.1 58)), (1, .int a1), (2, .int x5), (3, .long r22), (5, .int x5)]) C [1, 2, 3, 0, 4] dX3_mildestAccuser_56 rfl (by decide) rfl ?_
  exact q_X3_mildestAccuser_57 C D hK7 _ _ _ _ h
set_option maxHeartbeats 4000000 in
set_option maxRecDepth 100000 in
theorem q_X3_mildestAccuser_7 {X : vX} {G : vG}  {post : Int32 → vSt → Prop} (C : v_Cx X G cX3_mildestAccuser RX3 6 (v_rm 2 83)) (D : v_Rx X G (v_Qi G post) (some .int))  {a1 : Int32}   : ∀ (fu : Nat) (S : vSt) (x2 : Int32) (x3 : Int64) (x5 : Int32), p_X3_mildestAccuser_7 a1 post fu S x2 x3 x5 → VJ X G S 7 [(0, .ref (G.1 58)), (1, .int a1), (2, .int x2), (3, .long x3), (5, .int x5)] [] := by
  intro fu
  induction fu with
  | zero => intro S x2 x3 x5 h; exact absurd h id
  | succ fu ih =>
    intro S x2 x3 x5 h
    have hK7 := ih
    rw [e_X3_mildestAccuser_7] at h
    refine V_iload C 4 dX3_mildestAccuser_7 rfl ?_
    refine V_aload_n C 0 dX3_mildestAccuser_9 rfl rfl ?_
    refine V_ga C 58 (by decide) (by decide) F_3_0 k_RX3_40 dX3_mildestAccuser_10 ?_
    refine V_gi C 10 (by decide) (by decide) F_0_15 k_RX3_75 dX3_mildestAccuser_13 ?_
    refine V_icmp_ge (tgt := 63) C dX3_mildestAccuser_16 (by decide) (fun c => ?_) (fun c => ?_)
    · have h := h.1 c
      refine V_iload_n C 2 dX3_mildestAccuser_63 rfl rfl ?_
      exact V_iret C D dX3_mildestAccuser_64 h
    · have h := h.2 c
      refine V_aload_n C 0 dX3_mildestAccuser_19 rfl rfl ?_
      refine V_iload C 4 dX3_mildestAccuser_20 rfl ?_
      refine V_iload_n C 1 dX3_mildestAccuser_22 rfl rfl ?_
      refine V_callVz (As := [.int x5, .int a1]) (rest := []) C (c_X3_isWithin (v_l X) G  _ _ _ h) 58 3 (by decide) (by decide) (by decide) rfl KV_X3_isWithin k_RX3_112 rfl rfl rfl (Nat.le_of_ble_eq_true rfl) ⟨Nat.le_of_ble_eq_true rfl, Nat.le_of_ble_eq_true rfl⟩ dX3_mildestAccuser_23 (fun r20 S19 h => ?_)
      refine V_ifb_eq (tgt := 57) C dX3_mildestAccuser_26 (by decide) (fun c => ?_) (fun c => ?_)
      · have h := h.1 c
        exact q_X3_mildestAccuser_57 C D hK7 _ _ _ _ h
      · have h := h.2 c
        refine V_iload_n C 2 dX3_mildestAccuser_29 rfl rfl ?_
        refine V_iconst (v := (-1)) C dX3_mildestAccuser_30 (by decide) ?_
        refine V_icmp_eq (tgt := 46) C dX3_mildestAccuser_31 (by decide) (fun c => ?_) (fun c => ?_)
        · have h := h.1 c
          refine V_loc (lv' := [(0, .ref (G.1 58)), (1, .int a1), (5, .int x5)]) [0, 1, 4] rfl ?_
          exact q_X3_mildestAccuser_46 C D hK7 _ _ h
        · have h := h.2 c
          refine V_aload_n C 0 dX3_mildestAccuser_34 rfl rfl ?_
          refine V_iload C 4 dX3_mildestAccuser_35 rfl ?_
          refine V_iload_n C 1 dX3_mildestAccuser_37 rfl rfl ?_
          refine V_callVl (As := [.int x5, .int a1]) (rest := []) C (c_X3_lossOf (v_l X) G  _ _ _ h) 58 3 (by decide) (by decide) (by decide) rfl KV_X3_lossOf k_RX3_132 rfl rfl rfl (Nat.le_of_ble_eq_true rfl) ⟨Nat.le_of_ble_eq_true rfl, Nat.le_of_ble_eq_true rfl⟩ dX3_mildestAccuser_38 (fun r22 S21 h => ?_)
          refine V_lload_n C 3 dX3_mildestAccuser_41 rfl rfl ?_
          refine V_lcmp_ge (tgt := 57) C dX3_mildestAccuser_42 dX3_mildestAccuser_43 (by decide) (fun c => ?_) (fun c => ?_)
          · have h := h.1 c
            exact q_X3_mildestAccuser_57 C D hK7 _ _ _ _ h
          · have h := h.2 c
            refine V_loc (lv' := [(0, .ref (G.1 58)), (1, .int a1), (5, .int x5)]) [0, 1, 4] rfl ?_
            exact q_X3_mildestAccuser_46 C D hK7 _ _ h
set_option maxHeartbeats 4000000 in
set_option maxRecDepth 100000 in
theorem c_X3_mildestAccuser (l : Launch) (G : vG)    {S : vSt} (a1 : Int32) (post : Int32 → vSt → Prop) (h : p_X3_mildestAccuser   S a1 post) : Met l yX3_mildestAccuser (v_ws yX3_mildestAccuser cX3_mildestAccuser 6 (some .int)) (v_rm 2 83) (v_Pc G [.ref (G.1 58), .int a1] S) (v_Qi G post) 0 0 (v_A G) := by
  refine v_start (by decide +kernel) (Nat.le_of_ble_eq_true rfl) (fun X hl C D => ?_)
  subst hl
  have C : v_Cx X G cX3_mildestAccuser RX3 6 (v_rm 2 83) := C
  show VJ X G S 0 [(0, .ref (G.1 58)), (1, .int a1)] []
  refine V_iconst (v := (-1)) C dX3_mildestAccuser_0 (by decide) ?_
  refine V_istore_n (lv' := [(0, .ref (G.1 58)), (1, .int a1), (2, .int (-1))]) C [1, 2, 0] dX3_mildestAccuser_1 rfl (by decide) rfl ?_
  refine V_lconst (v := 0) C dX3_mildestAccuser_2 (by decide) ?_
  refine V_lstore_n (lv' := [(0, .ref (G.1 58)), (1, .int a1), (2, .int (-1)), (3, .long 0)]) C [1, 2, 3, 0] dX3_mildestAccuser_3 rfl (by decide) rfl ?_
  refine V_iconst (v := 0) C dX3_mildestAccuser_4 (by decide) ?_
  refine V_istore (lv' := [(0, .ref (G.1 58)), (1, .int a1), (2, .int (-1)), (3, .long 0), (5, .int 0)]) C [1, 2, 3, 4, 0] dX3_mildestAccuser_5 (by decide) rfl ?_
  obtain ⟨fu7, h⟩ := h
  exact q_X3_mildestAccuser_7 C D  fu7 _ _ _ _ h
/-! HalfAccuser$Hopes.fewestCoins(II)I -/
theorem dX3_fewestCoins_0 : decode cX3_fewestCoins 0 = .ok ((.lconst 0), 1) := by decide +kernel
theorem dX3_fewestCoins_1 : decode cX3_fewestCoins 1 = .ok ((.aload_n 0), 1) := by decide +kernel
theorem dX3_fewestCoins_2 : decode cX3_fewestCoins 2 = .ok ((.iload_n 1), 1) := by decide +kernel
theorem dX3_fewestCoins_3 : decode cX3_fewestCoins 3 = .ok ((.iload_n 2), 1) := by decide +kernel
theorem dX3_fewestCoins_4 : decode cX3_fewestCoins 4 = .ok ((.invokevirtual 115), 3) := by decide +kernel
theorem dX3_fewestCoins_7 : decode cX3_fewestCoins 7 = .ok ((.invokestatic 119), 3) := by decide +kernel
theorem dX3_fewestCoins_10 : decode cX3_fewestCoins 10 = .ok ((.lstore_n 3), 1) := by decide +kernel
theorem dX3_fewestCoins_11 : decode cX3_fewestCoins 11 = .ok ((.lload_n 3), 1) := by decide +kernel
theorem dX3_fewestCoins_12 : decode cX3_fewestCoins 12 = .ok ((.aload_n 0), 1) := by decide +kernel
theorem dX3_fewestCoins_13 : decode cX3_fewestCoins 13 = .ok ((.invokevirtual 142), 3) := by decide +kernel
theorem dX3_fewestCoins_16 : decode cX3_fewestCoins 16 = .ok (.ladd, 1) := by decide +kernel
theorem dX3_fewestCoins_17 : decode cX3_fewestCoins 17 = .ok ((.lconst 1), 1) := by decide +kernel
theorem dX3_fewestCoins_18 : decode cX3_fewestCoins 18 = .ok (.lsub, 1) := by decide +kernel
theorem dX3_fewestCoins_19 : decode cX3_fewestCoins 19 = .ok ((.iconst 4), 1) := by decide +kernel
theorem dX3_fewestCoins_20 : decode cX3_fewestCoins 20 = .ok ((.aload_n 0), 1) := by decide +kernel
theorem dX3_fewestCoins_21 : decode cX3_fewestCoins 21 = .ok ((.getfield 40), 3) := by decide +kernel
theorem dX3_fewestCoins_24 : decode cX3_fewestCoins 24 = .ok ((.iconst 0), 1) := by decide +kernel
theorem dX3_fewestCoins_25 : decode cX3_fewestCoins 25 = .ok ((.invokevirtual 44), 3) := by decide +kernel
theorem dX3_fewestCoins_28 : decode cX3_fewestCoins 28 = .ok (.imul, 1) := by decide +kernel
theorem dX3_fewestCoins_29 : decode cX3_fewestCoins 29 = .ok (.lshr, 1) := by decide +kernel
theorem dX3_fewestCoins_30 : decode cX3_fewestCoins 30 = .ok (.l2i, 1) := by decide +kernel
theorem dX3_fewestCoins_31 : decode cX3_fewestCoins 31 = .ok (.ireturn, 1) := by decide +kernel
def p_X3_fewestCoins   (S : vSt) (a1 : Int32) (a2 : Int32) (post : Int32 → vSt → Prop) : Prop := p_X3_gainOf  S a1 a2 (fun r9 S8 => ∀ y10 : Int64, y10 = (v_maxl 0 r9) → p_X3_whole  S8  (fun r12 S11 => p_X0_ruleOf 10 S11 0 (fun r14 S13 => post (Int64.toInt32 (((y10 + r12) - 1) >>> ((Int32.toInt64 (4 * r14)) &&& 63))) S13)))
set_option maxHeartbeats 4000000 in
set_option maxRecDepth 100000 in
theorem c_X3_fewestCoins (l : Launch) (G : vG)    {S : vSt} (a1 : Int32) (a2 : Int32) (post : Int32 → vSt → Prop) (h : p_X3_fewestCoins   S a1 a2 post) : Met l yX3_fewestCoins (v_ws yX3_fewestCoins cX3_fewestCoins 5 (some .int)) (v_rm 3 102) (v_Pc G [.ref (G.1 58), .int a1, .int a2] S) (v_Qi G post) 0 0 (v_A G) := by
  refine v_start (by decide +kernel) (Nat.le_of_ble_eq_true rfl) (fun X hl C D => ?_)
  subst hl
  have C : v_Cx X G cX3_fewestCoins RX3 5 (v_rm 3 102) := C
  show VJ X G S 0 [(0, .ref (G.1 58)), (1, .int a1), (2, .int a2)] []
  refine V_lconst (v := 0) C dX3_fewestCoins_0 (by decide) ?_
  refine V_aload_n C 0 dX3_fewestCoins_1 rfl rfl ?_
  refine V_iload_n C 1 dX3_fewestCoins_2 rfl rfl ?_
  refine V_iload_n C 2 dX3_fewestCoins_3 rfl rfl ?_
  refine V_callVl (As := [.int a1, .int a2]) (rest := [.long 0]) C (c_X3_gainOf (v_l X) G  _ _ _ h) 58 3 (by decide) (by decide) (by decide) rfl KV_X3_gainOf k_RX3_115 rfl rfl rfl (Nat.le_of_ble_eq_true rfl) ⟨Nat.le_of_ble_eq_true rfl, Nat.le_of_ble_eq_true rfl⟩ dX3_fewestCoins_4 (fun r9 S8 h => ?_)
  refine V_maxl C k_RX3_119 (Nat.le_of_ble_eq_true rfl) ⟨Nat.le_of_ble_eq_true rfl, Nat.le_of_ble_eq_true rfl⟩ dX3_fewestCoins_7 ?_
  refine V_topl (fun y10 ey10 => ?_)
  have h := h y10 ey10
  refine V_lstore_n (lv' := [(0, .ref (G.1 58)), (1, .int a1), (2, .int a2), (3, .long y10)]) C [1, 2, 3, 0] dX3_fewestCoins_10 rfl (by decide) rfl ?_
  refine V_lload_n C 3 dX3_fewestCoins_11 rfl rfl ?_
  refine V_aload_n C 0 dX3_fewestCoins_12 rfl rfl ?_
  refine V_callVl (As := []) (rest := [.long y10]) C (c_X3_whole (v_l X) G  _ h) 58 3 (by decide) (by decide) (by decide) rfl KV_X3_whole k_RX3_142 rfl rfl rfl (Nat.le_of_ble_eq_true rfl) ⟨Nat.le_of_ble_eq_true rfl, Nat.le_of_ble_eq_true rfl⟩ dX3_fewestCoins_13 (fun r12 S11 h => ?_)
  refine V_ladd C dX3_fewestCoins_16 ?_
  refine V_lconst (v := 1) C dX3_fewestCoins_17 (by decide) ?_
  refine V_lsub C dX3_fewestCoins_18 ?_
  refine V_iconst (v := 4) C dX3_fewestCoins_19 (by decide) ?_
  refine V_aload_n C 0 dX3_fewestCoins_20 rfl rfl ?_
  refine V_ga C 58 (by decide) (by decide) F_3_0 k_RX3_40 dX3_fewestCoins_21 ?_
  refine V_iconst (v := 0) C dX3_fewestCoins_24 (by decide) ?_
  refine V_callVi (As := [.int 0]) (rest := [.int 4, .long ((y10 + r12) - 1)]) C (c_X0_ruleOf (v_l X) G v_i10 _ _ h) 10 0 (by decide) (by decide) (by decide) rfl KV_X0_ruleOf k_RX3_44 rfl rfl rfl (Nat.le_of_ble_eq_true rfl) ⟨Nat.le_of_ble_eq_true rfl, Nat.le_of_ble_eq_true rfl⟩ dX3_fewestCoins_25 (fun r14 S13 h => ?_)
  refine V_imul C dX3_fewestCoins_28 ?_
  refine V_lshr C dX3_fewestCoins_29 ?_
  refine V_l2i C dX3_fewestCoins_30 ?_
  exact V_iret C D dX3_fewestCoins_31 h
/-! HalfAccuser$Hopes.mostCoins(II)I -/
theorem dX3_mostCoins_0 : decode cX3_mostCoins 0 = .ok ((.aload_n 0), 1) := by decide +kernel
theorem dX3_mostCoins_1 : decode cX3_mostCoins 1 = .ok ((.iload_n 1), 1) := by decide +kernel
theorem dX3_mostCoins_2 : decode cX3_mostCoins 2 = .ok ((.iload_n 2), 1) := by decide +kernel
theorem dX3_mostCoins_3 : decode cX3_mostCoins 3 = .ok ((.invokevirtual 132), 3) := by decide +kernel
theorem dX3_mostCoins_6 : decode cX3_mostCoins 6 = .ok ((.iconst 4), 1) := by decide +kernel
theorem dX3_mostCoins_7 : decode cX3_mostCoins 7 = .ok ((.aload_n 0), 1) := by decide +kernel
theorem dX3_mostCoins_8 : decode cX3_mostCoins 8 = .ok ((.getfield 40), 3) := by decide +kernel
theorem dX3_mostCoins_11 : decode cX3_mostCoins 11 = .ok ((.iconst 0), 1) := by decide +kernel
theorem dX3_mostCoins_12 : decode cX3_mostCoins 12 = .ok ((.invokevirtual 44), 3) := by decide +kernel
theorem dX3_mostCoins_15 : decode cX3_mostCoins 15 = .ok (.imul, 1) := by decide +kernel
theorem dX3_mostCoins_16 : decode cX3_mostCoins 16 = .ok (.lshr, 1) := by decide +kernel
theorem dX3_mostCoins_17 : decode cX3_mostCoins 17 = .ok (.l2i, 1) := by decide +kernel
theorem dX3_mostCoins_18 : decode cX3_mostCoins 18 = .ok (.ireturn, 1) := by decide +kernel
def p_X3_mostCoins   (S : vSt) (a1 : Int32) (a2 : Int32) (post : Int32 → vSt → Prop) : Prop := p_X3_lossOf  S a1 a2 (fun r6 S5 => p_X0_ruleOf 10 S5 0 (fun r8 S7 => post (Int64.toInt32 (r6 >>> ((Int32.toInt64 (4 * r8)) &&& 63))) S7))
set_option maxHeartbeats 4000000 in
set_option maxRecDepth 100000 in
theorem c_X3_mostCoins (l : Launch) (G : vG)    {S : vSt} (a1 : Int32) (a2 : Int32) (post : Int32 → vSt → Prop) (h : p_X3_mostCoins   S a1 a2 post) : Met l yX3_mostCoins (v_ws yX3_mostCoins cX3_mostCoins 3 (some .int)) (v_rm 2 83) (v_Pc G [.ref (G.1 58), .int a1, .int a2] S) (v_Qi G post) 0 0 (v_A G) := by
  refine v_start (by decide +kernel) (Nat.le_of_ble_eq_true rfl) (fun X hl C D => ?_)
  subst hl
  have C : v_Cx X G cX3_mostCoins RX3 3 (v_rm 2 83) := C
  show VJ X G S 0 [(0, .ref (G.1 58)), (1, .int a1), (2, .int a2)] []
  refine V_aload_n C 0 dX3_mostCoins_0 rfl rfl ?_
  refine V_iload_n C 1 dX3_mostCoins_1 rfl rfl ?_
  refine V_iload_n C 2 dX3_mostCoins_2 rfl rfl ?_
  refine V_callVl (As := [.int a1, .int a2]) (rest := []) C (c_X3_lossOf (v_l X) G  _ _ _ h) 58 3 (by decide) (by decide) (by decide) rfl KV_X3_lossOf k_RX3_132 rfl rfl rfl (Nat.le_of_ble_eq_true rfl) ⟨Nat.le_of_ble_eq_true rfl, Nat.le_of_ble_eq_true rfl⟩ dX3_mostCoins_3 (fun r6 S5 h => ?_)
  refine V_iconst (v := 4) C dX3_mostCoins_6 (by decide) ?_
  refine V_aload_n C 0 dX3_mostCoins_7 rfl rfl ?_
  refine V_ga C 58 (by decide) (by decide) F_3_0 k_RX3_40 dX3_mostCoins_8 ?_
  refine V_iconst (v := 0) C dX3_mostCoins_11 (by decide) ?_
  refine V_callVi (As := [.int 0]) (rest := [.int 4, .long r6]) C (c_X0_ruleOf (v_l X) G v_i10 _ _ h) 10 0 (by decide) (by decide) (by decide) rfl KV_X0_ruleOf k_RX3_44 rfl rfl rfl (Nat.le_of_ble_eq_true rfl) ⟨Nat.le_of_ble_eq_true rfl, Nat.le_of_ble_eq_true rfl⟩ dX3_mostCoins_12 (fun r8 S7 h => ?_)
  refine V_imul C dX3_mostCoins_15 ?_
  refine V_lshr C dX3_mostCoins_16 ?_
  refine V_l2i C dX3_mostCoins_17 ?_
  exact V_iret C D dX3_mostCoins_18 h
/-! HalfAccuser$Hopes.isAnyGlad(III)Z -/
theorem dX3_isAnyGlad_0 : decode cX3_isAnyGlad 0 = .ok ((.iconst 0), 1) := by decide +kernel
theorem dX3_isAnyGlad_1 : decode cX3_isAnyGlad 1 = .ok ((.istore 4), 2) := by decide +kernel
theorem dX3_isAnyGlad_3 : decode cX3_isAnyGlad 3 = .ok ((.iload 4), 2) := by decide +kernel
theorem dX3_isAnyGlad_5 : decode cX3_isAnyGlad 5 = .ok ((.aload_n 0), 1) := by decide +kernel
theorem dX3_isAnyGlad_6 : decode cX3_isAnyGlad 6 = .ok ((.getfield 40), 3) := by decide +kernel
theorem dX3_isAnyGlad_9 : decode cX3_isAnyGlad 9 = .ok ((.getfield 75), 3) := by decide +kernel
theorem dX3_isAnyGlad_12 : decode cX3_isAnyGlad 12 = .ok ((.if_icmp .ge 57), 3) := by decide +kernel
theorem dX3_isAnyGlad_15 : decode cX3_isAnyGlad 15 = .ok ((.iload 4), 2) := by decide +kernel
theorem dX3_isAnyGlad_17 : decode cX3_isAnyGlad 17 = .ok ((.iload_n 1), 1) := by decide +kernel
theorem dX3_isAnyGlad_18 : decode cX3_isAnyGlad 18 = .ok ((.invokestatic 89), 3) := by decide +kernel
theorem dX3_isAnyGlad_21 : decode cX3_isAnyGlad 21 = .ok ((.istore 5), 2) := by decide +kernel
theorem dX3_isAnyGlad_23 : decode cX3_isAnyGlad 23 = .ok ((.aload_n 0), 1) := by decide +kernel
theorem dX3_isAnyGlad_24 : decode cX3_isAnyGlad 24 = .ok ((.iload 4), 2) := by decide +kernel
theorem dX3_isAnyGlad_26 : decode cX3_isAnyGlad 26 = .ok ((.iload_n 1), 1) := by decide +kernel
theorem dX3_isAnyGlad_27 : decode cX3_isAnyGlad 27 = .ok ((.invokevirtual 112), 3) := by decide +kernel
theorem dX3_isAnyGlad_30 : decode cX3_isAnyGlad 30 = .ok ((.ifCond .eq 33), 3) := by decide +kernel
theorem dX3_isAnyGlad_33 : decode cX3_isAnyGlad 33 = .ok ((.aload_n 0), 1) := by decide +kernel
theorem dX3_isAnyGlad_34 : decode cX3_isAnyGlad 34 = .ok ((.getfield 21), 3) := by decide +kernel
theorem dX3_isAnyGlad_37 : decode cX3_isAnyGlad 37 = .ok ((.iload 5), 2) := by decide +kernel
theorem dX3_isAnyGlad_39 : decode cX3_isAnyGlad 39 = .ok ((.invokestatic 60), 3) := by decide +kernel
theorem dX3_isAnyGlad_42 : decode cX3_isAnyGlad 42 = .ok ((.iload_n 2), 1) := by decide +kernel
theorem dX3_isAnyGlad_43 : decode cX3_isAnyGlad 43 = .ok (.i2l, 1) := by decide +kernel
theorem dX3_isAnyGlad_44 : decode cX3_isAnyGlad 44 = .ok (.lmul, 1) := by decide +kernel
theorem dX3_isAnyGlad_45 : decode cX3_isAnyGlad 45 = .ok ((.aload_n 0), 1) := by decide +kernel
theorem dX3_isAnyGlad_46 : decode cX3_isAnyGlad 46 = .ok ((.getfield 24), 3) := by decide +kernel
theorem dX3_isAnyGlad_49 : decode cX3_isAnyGlad 49 = .ok ((.iload 5), 2) := by decide +kernel
theorem dX3_isAnyGlad_51 : decode cX3_isAnyGlad 51 = .ok ((.invokestatic 60), 3) := by decide +kernel
theorem dX3_isAnyGlad_54 : decode cX3_isAnyGlad 54 = .ok ((.iload_n 3), 1) := by decide +kernel
theorem dX3_isAnyGlad_55 : decode cX3_isAnyGlad 55 = .ok (.i2l, 1) := by decide +kernel
theorem dX3_isAnyGlad_56 : decode cX3_isAnyGlad 56 = .ok (.lmul, 1) := by decide +kernel
theorem dX3_isAnyGlad_57 : decode cX3_isAnyGlad 57 = .ok (.lcmp, 1) := by decide +kernel
theorem dX3_isAnyGlad_58 : decode cX3_isAnyGlad 58 = .ok ((.ifCond .le 5), 3) := by decide +kernel
theorem dX3_isAnyGlad_61 : decode cX3_isAnyGlad 61 = .ok ((.iconst 1), 1) := by decide +kernel
theorem dX3_isAnyGlad_62 : decode cX3_isAnyGlad 62 = .ok (.ireturn, 1) := by decide +kernel
theorem dX3_isAnyGlad_63 : decode cX3_isAnyGlad 63 = .ok ((.iinc 4 1), 3) := by decide +kernel
theorem dX3_isAnyGlad_66 : decode cX3_isAnyGlad 66 = .ok ((.goto (-63)), 3) := by decide +kernel
theorem dX3_isAnyGlad_69 : decode cX3_isAnyGlad 69 = .ok ((.iconst 0), 1) := by decide +kernel
theorem dX3_isAnyGlad_70 : decode cX3_isAnyGlad 70 = .ok (.ireturn, 1) := by decide +kernel
def p_X3_isAnyGlad_63  (a1 : Int32) (a2 : Int32) (a3 : Int32)  (K3 : vSt → Int32 → Prop) (post : Bool → vSt → Prop) (S : vSt) (x4 : Int32) : Prop := ∀ y23 : Int32, y23 = x4 + 1 → K3 S y23
def p_X3_isAnyGlad_3  (a1 : Int32) (a2 : Int32) (a3 : Int32)   (post : Bool → vSt → Prop) : Nat → vSt → Int32 → Prop
  | 0 => fun _ _ => False
  | fu3 + 1 => fun S x4 => (((S.1 10 15) ≤ x4 → post false S) ∧ (¬ (S.1 10 15) ≤ x4 → p_X3_cellOf  S x4 a1 (fun r20 S19 => p_X3_isWithin  S19 x4 a1 (fun r22 S21 => ((r22 = false → p_X3_isAnyGlad_63 a1 a2 a3 (p_X3_isAnyGlad_3 a1 a2 a3 post fu3) post S21 x4) ∧ (r22 = true → p_X10_at_ 62 80 S21 r20 (fun r24 S23 => p_X10_at_ 63 80 S23 r20 (fun r26 S25 => (((r24 * (Int32.toInt64 a2)) ≤ (r26 * (Int32.toInt64 a3)) → p_X3_isAnyGlad_63 a1 a2 a3 (p_X3_isAnyGlad_3 a1 a2 a3 post fu3) post S25 x4) ∧ (¬ (r24 * (Int32.toInt64 a2)) ≤ (r26 * (Int32.toInt64 a3)) → post true S25))))))))))
theorem e_X3_isAnyGlad_3  (a1 : Int32) (a2 : Int32) (a3 : Int32)   (post : Bool → vSt → Prop) (fu3 : Nat) (S : vSt) (x4 : Int32) : p_X3_isAnyGlad_3 a1 a2 a3 post (fu3 + 1) S x4 = ((((S.1 10 15) ≤ x4 → post false S) ∧ (¬ (S.1 10 15) ≤ x4 → p_X3_cellOf  S x4 a1 (fun r20 S19 => p_X3_isWithin  S19 x4 a1 (fun r22 S21 => ((r22 = false → p_X3_isAnyGlad_63 a1 a2 a3 (p_X3_isAnyGlad_3 a1 a2 a3 post fu3) post S21 x4) ∧ (r22 = true → p_X10_at_ 62 80 S21 r20 (fun r24 S23 => p_X10_at_ 63 80 S23 r20 (fun r26 S25 => (((r24 * (Int32.toInt64 a2)) ≤ (r26 * (Int32.toInt64 a3)) → p_X3_isAnyGlad_63 a1 a2 a3 (p_X3_isAnyGlad_3 a1 a2 a3 post fu3) post S25 x4) ∧ (¬ (r24 * (Int32.toInt64 a2)) ≤ (r26 * (Int32.toInt64 a3)) → post true S25))))))))))) := rfl
def p_X3_isAnyGlad   (S : vSt) (a1 : Int32) (a2 : Int32) (a3 : Int32) (post : Bool → vSt → Prop) : Prop := ∃ fu3, p_X3_isAnyGlad_3 a1 a2 a3 post fu3 S 0
set_option maxHeartbeats 4000000 in
set_option maxRecDepth 100000 in
theorem q_X3_isAnyGlad_63 {X : vX} {G : vG}  {post : Bool → vSt → Prop} (C : v_Cx X G cX3_isAnyGlad RX3 6 (v_rm 2 83)) (D : v_Rx X G (v_Qz G post) (some .boolean))  {a1 : Int32} {a2 : Int32} {a3 : Int32}  {K3 : vSt → Int32 → Prop} (hK3 : ∀ S x4, K3 S x4 → VJ X G S 3 [(0, .ref (G.1 58)), (1, .int a1), (2, .int a2), (3, .int a3), (4, .int x4)] []) : ∀ (S : vSt) (x4 : Int32), p_X3_isAnyGlad_63 a1 a2 a3 K3 post S x4 → VJ X G S 63 [(0, .ref (G.1 58)), (1, .int a1), (2, .int a2), (3, .int a3), (4, .int x4)] [] := by
  intro S x4 h
  obtain ⟨y23, ey23⟩ : ∃ z : Int32, z = x4 + 1 := ⟨_, rfl⟩
  have h := h y23 ey23
  refine V_iinc (lv' := [(0, .ref (G.1 58)), (1, .int a1), (2, .int a2), (3, .int a3), (4, .int y23)]) C 4 [1, 2, 3, 4, 0] y23 dX3_isAnyGlad_63 rfl (by rw [ey23]; rfl) (by decide) rfl ?_
  refine V_goto (tgt := 3) C dX3_isAnyGlad_66 (by decide) ?_
  exact hK3 _ _ h
set_option maxHeartbeats 4000000 in
set_option maxRecDepth 100000 in
theorem q_X3_isAnyGlad_3 {X : vX} {G : vG}  {post : Bool → vSt → Prop} (C : v_Cx X G cX3_isAnyGlad RX3 6 (v_rm 2 83)) (D : v_Rx X G (v_Qz G post) (some .boolean))  {a1 : Int32} {a2 : Int32} {a3 : Int32}   : ∀ (fu : Nat) (S : vSt) (x4 : Int32), p_X3_isAnyGlad_3 a1 a2 a3 post fu S x4 → VJ X G S 3 [(0, .ref (G.1 58)), (1, .int a1), (2, .int a2), (3, .int a3), (4, .int x4)] [] := by
  intro fu
  induction fu with
  | zero => intro S x4 h; exact absurd h id
  | succ fu ih =>
    intro S x4 h
    have hK3 := ih
    rw [e_X3_isAnyGlad_3] at h
    refine V_iload C 4 dX3_isAnyGlad_3 rfl ?_
    refine V_aload_n C 0 dX3_isAnyGlad_5 rfl rfl ?_
    refine V_ga C 58 (by decide) (by decide) F_3_0 k_RX3_40 dX3_isAnyGlad_6 ?_
    refine V_gi C 10 (by decide) (by decide) F_0_15 k_RX3_75 dX3_isAnyGlad_9 ?_
    refine V_icmp_ge (tgt := 69) C dX3_isAnyGlad_12 (by decide) (fun c => ?_) (fun c => ?_)
    · have h := h.1 c
      refine V_iconst (v := 0) C dX3_isAnyGlad_69 (by decide) ?_
      exact V_zret0 C D dX3_isAnyGlad_70 h
    · have h := h.2 c
      refine V_iload C 4 dX3_isAnyGlad_15 rfl ?_
      refine V_iload_n C 1 dX3_isAnyGlad_17 rfl rfl ?_
      refine V_callSi (As := [.int x4, .int a1]) (rest := []) C (c_X3_cellOf (v_l X) G  _ _ _ h) KV_X3_cellOf k_RX3_89 rfl rfl rfl (Nat.le_of_ble_eq_true rfl) ⟨Nat.le_of_ble_eq_true rfl, Nat.le_of_ble_eq_true rfl⟩ dX3_isAnyGlad_18 (fun r20 S19 h => ?_)
      refine V_istore (lv' := [(0, .ref (G.1 58)), (1, .int a1), (2, .int a2), (3, .int a3), (4, .int x4), (5, .int r20)]) C [1, 2, 3, 4, 5, 0] dX3_isAnyGlad_21 (by decide) rfl ?_
      refine V_aload_n C 0 dX3_isAnyGlad_23 rfl rfl ?_
      refine V_iload C 4 dX3_isAnyGlad_24 rfl ?_
      refine V_iload_n C 1 dX3_isAnyGlad_26 rfl rfl ?_
      refine V_callVz (As := [.int x4, .int a1]) (rest := []) C (c_X3_isWithin (v_l X) G  _ _ _ h) 58 3 (by decide) (by decide) (by decide) rfl KV_X3_isWithin k_RX3_112 rfl rfl rfl (Nat.le_of_ble_eq_true rfl) ⟨Nat.le_of_ble_eq_true rfl, Nat.le_of_ble_eq_true rfl⟩ dX3_isAnyGlad_27 (fun r22 S21 h => ?_)
      refine V_ifb_eq (tgt := 63) C dX3_isAnyGlad_30 (by decide) (fun c => ?_) (fun c => ?_)
      · have h := h.1 c
        refine V_loc (lv' := [(0, .ref (G.1 58)), (1, .int a1), (2, .int a2), (3, .int a3), (4, .int x4)]) [0, 1, 2, 3, 4] rfl ?_
        exact q_X3_isAnyGlad_63 C D hK3 _ _ h
      · have h := h.2 c
        refine V_aload_n C 0 dX3_isAnyGlad_33 rfl rfl ?_
        refine V_ga C 58 (by decide) (by decide) F_3_4 k_RX3_21 dX3_isAnyGlad_34 ?_
        refine V_iload C 5 dX3_isAnyGlad_37 rfl ?_
        refine V_callSNl (As := [.ref (G.1 62), .int r20]) (rest := []) C (c_X10_at_ (v_l X) G (by decide) (by decide) _ _ h) KV_X10_at_ (List.mem_of_getElem? (i := 10) rfl) rfl rfl rfl (Nat.le_of_ble_eq_true rfl) ⟨Nat.le_of_ble_eq_true rfl, Nat.le_of_ble_eq_true rfl⟩ dX3_isAnyGlad_39 (fun r24 S23 h => ?_)
        refine V_iload_n C 2 dX3_isAnyGlad_42 rfl rfl ?_
        refine V_i2l C dX3_isAnyGlad_43 ?_
        refine V_lmul C dX3_isAnyGlad_44 ?_
        refine V_aload_n C 0 dX3_isAnyGlad_45 rfl rfl ?_
        refine V_ga C 58 (by decide) (by decide) F_3_5 k_RX3_24 dX3_isAnyGlad_46 ?_
        refine V_iload C 5 dX3_isAnyGlad_49 rfl ?_
        refine V_callSNl (As := [.ref (G.1 63), .int r20]) (rest := [.long (r24 * (Int32.toInt64 a2))]) C (c_X10_at_ (v_l X) G (by decide) (by decide) _ _ h) KV_X10_at_ (List.mem_of_getElem? (i := 10) rfl) rfl rfl rfl (Nat.le_of_ble_eq_true rfl) ⟨Nat.le_of_ble_eq_true rfl, Nat.le_of_ble_eq_true rfl⟩ dX3_isAnyGlad_51 (fun r26 S25 h => ?_)
        refine V_iload_n C 3 dX3_isAnyGlad_54 rfl rfl ?_
        refine V_i2l C dX3_isAnyGlad_55 ?_
        refine V_lmul C dX3_isAnyGlad_56 ?_
        refine V_lcmp_le (tgt := 63) C dX3_isAnyGlad_57 dX3_isAnyGlad_58 (by decide) (fun c => ?_) (fun c => ?_)
        · have h := h.1 c
          refine V_loc (lv' := [(0, .ref (G.1 58)), (1, .int a1), (2, .int a2), (3, .int a3), (4, .int x4)]) [0, 1, 2, 3, 4] rfl ?_
          exact q_X3_isAnyGlad_63 C D hK3 _ _ h
        · have h := h.2 c
          refine V_iconst (v := 1) C dX3_isAnyGlad_61 (by decide) ?_
          exact V_zret1 C D dX3_isAnyGlad_62 h
set_option maxHeartbeats 4000000 in
set_option maxRecDepth 100000 in
theorem c_X3_isAnyGlad (l : Launch) (G : vG)    {S : vSt} (a1 : Int32) (a2 : Int32) (a3 : Int32) (post : Bool → vSt → Prop) (h : p_X3_isAnyGlad   S a1 a2 a3 post) : Met l yX3_isAnyGlad (v_ws yX3_isAnyGlad cX3_isAnyGlad 6 (some .boolean)) (v_rm 2 83) (v_Pc G [.ref (G.1 58), .int a1, .int a2, .int a3] S) (v_Qz G post) 0 0 (v_A G) := by
  refine v_start (by decide +kernel) (Nat.le_of_ble_eq_true rfl) (fun X hl C D => ?_)
  subst hl
  have C : v_Cx X G cX3_isAnyGlad RX3 6 (v_rm 2 83) := C
  show VJ X G S 0 [(0, .ref (G.1 58)), (1, .int a1), (2, .int a2), (3, .int a3)] []
  refine V_iconst (v := 0) C dX3_isAnyGlad_0 (by decide) ?_
  refine V_istore (lv' := [(0, .ref (G.1 58)), (1, .int a1), (2, .int a2), (3, .int a3), (4, .int 0)]) C [1, 2, 3, 4, 0] dX3_isAnyGlad_1 (by decide) rfl ?_
  obtain ⟨fu3, h⟩ := h
  exact q_X3_isAnyGlad_3 C D  fu3 _ _ h
/-! HalfAccuser$Hopes.leastGladShare(I)I -/
theorem dX3_leastGladShare_0 : decode cX3_leastGladShare 0 = .ok ((.aload_n 0), 1) := by decide +kernel
theorem dX3_leastGladShare_1 : decode cX3_leastGladShare 1 = .ok ((.getfield 40), 3) := by decide +kernel
theorem dX3_leastGladShare_4 : decode cX3_leastGladShare 4 = .ok ((.iconst 2), 1) := by decide +kernel
theorem dX3_leastGladShare_5 : decode cX3_leastGladShare 5 = .ok ((.invokevirtual 44), 3) := by decide +kernel
theorem dX3_leastGladShare_8 : decode cX3_leastGladShare 8 = .ok ((.istore_n 2), 1) := by decide +kernel
theorem dX3_leastGladShare_9 : decode cX3_leastGladShare 9 = .ok ((.iconst 0), 1) := by decide +kernel
theorem dX3_leastGladShare_10 : decode cX3_leastGladShare 10 = .ok ((.istore_n 3), 1) := by decide +kernel
theorem dX3_leastGladShare_11 : decode cX3_leastGladShare 11 = .ok ((.iload_n 3), 1) := by decide +kernel
theorem dX3_leastGladShare_12 : decode cX3_leastGladShare 12 = .ok ((.bipush 16), 2) := by decide +kernel
theorem dX3_leastGladShare_14 : decode cX3_leastGladShare 14 = .ok ((.if_icmp .gt 35), 3) := by decide +kernel
theorem dX3_leastGladShare_17 : decode cX3_leastGladShare 17 = .ok ((.aload_n 0), 1) := by decide +kernel
theorem dX3_leastGladShare_18 : decode cX3_leastGladShare 18 = .ok ((.iload_n 1), 1) := by decide +kernel
theorem dX3_leastGladShare_19 : decode cX3_leastGladShare 19 = .ok ((.aload_n 0), 1) := by decide +kernel
theorem dX3_leastGladShare_20 : decode cX3_leastGladShare 20 = .ok ((.getfield 40), 3) := by decide +kernel
theorem dX3_leastGladShare_23 : decode cX3_leastGladShare 23 = .ok ((.getfield 96), 3) := by decide +kernel
theorem dX3_leastGladShare_26 : decode cX3_leastGladShare 26 = .ok ((.iload_n 1), 1) := by decide +kernel
theorem dX3_leastGladShare_27 : decode cX3_leastGladShare 27 = .ok ((.invokestatic 99), 3) := by decide +kernel
theorem dX3_leastGladShare_30 : decode cX3_leastGladShare 30 = .ok ((.iload_n 3), 1) := by decide +kernel
theorem dX3_leastGladShare_31 : decode cX3_leastGladShare 31 = .ok ((.invokestatic 102), 3) := by decide +kernel
theorem dX3_leastGladShare_34 : decode cX3_leastGladShare 34 = .ok ((.iload_n 2), 1) := by decide +kernel
theorem dX3_leastGladShare_35 : decode cX3_leastGladShare 35 = .ok ((.invokevirtual 145), 3) := by decide +kernel
theorem dX3_leastGladShare_38 : decode cX3_leastGladShare 38 = .ok ((.ifCond .eq 5), 3) := by decide +kernel
theorem dX3_leastGladShare_41 : decode cX3_leastGladShare 41 = .ok ((.iload_n 3), 1) := by decide +kernel
theorem dX3_leastGladShare_42 : decode cX3_leastGladShare 42 = .ok (.ireturn, 1) := by decide +kernel
theorem dX3_leastGladShare_43 : decode cX3_leastGladShare 43 = .ok ((.iinc 3 1), 3) := by decide +kernel
theorem dX3_leastGladShare_46 : decode cX3_leastGladShare 46 = .ok ((.goto (-35)), 3) := by decide +kernel
theorem dX3_leastGladShare_49 : decode cX3_leastGladShare 49 = .ok ((.iconst (-1)), 1) := by decide +kernel
theorem dX3_leastGladShare_50 : decode cX3_leastGladShare 50 = .ok (.ireturn, 1) := by decide +kernel
def p_X3_leastGladShare_11  (a1 : Int32)   (post : Int32 → vSt → Prop) : Nat → vSt → Int32 → Int32 → Prop
  | 0 => fun _ _ _ => False
  | fu11 + 1 => fun S x2 x3 => ((16 < x3 → post (-1) S) ∧ (¬ 16 < x3 → p_X10_at 20 10 S a1 (fun r20 S19 => p_X0_partOf  S19 r20 x3 (fun r22 S21 => p_X3_isAnyGlad  S21 a1 r22 x2 (fun r24 S23 => ((r24 = false → ∀ y25 : Int32, y25 = x3 + 1 → (p_X3_leastGladShare_11 a1 post fu11) S23 x2 y25) ∧ (r24 = true → post x3 S23)))))))
theorem e_X3_leastGladShare_11  (a1 : Int32)   (post : Int32 → vSt → Prop) (fu11 : Nat) (S : vSt) (x2 : Int32) (x3 : Int32) : p_X3_leastGladShare_11 a1 post (fu11 + 1) S x2 x3 = (((16 < x3 → post (-1) S) ∧ (¬ 16 < x3 → p_X10_at 20 10 S a1 (fun r20 S19 => p_X0_partOf  S19 r20 x3 (fun r22 S21 => p_X3_isAnyGlad  S21 a1 r22 x2 (fun r24 S23 => ((r24 = false → ∀ y25 : Int32, y25 = x3 + 1 → (p_X3_leastGladShare_11 a1 post fu11) S23 x2 y25) ∧ (r24 = true → post x3 S23)))))))) := rfl
def p_X3_leastGladShare   (S : vSt) (a1 : Int32) (post : Int32 → vSt → Prop) : Prop := p_X0_ruleOf 10 S 2 (fun r18 S17 => ∃ fu11, p_X3_leastGladShare_11 a1 post fu11 S17 r18 0)
set_option maxHeartbeats 4000000 in
set_option maxRecDepth 100000 in
theorem q_X3_leastGladShare_11 {X : vX} {G : vG}  {post : Int32 → vSt → Prop} (C : v_Cx X G cX3_leastGladShare RX3 4 (v_rm 3 108)) (D : v_Rx X G (v_Qi G post) (some .int))  {a1 : Int32}   : ∀ (fu : Nat) (S : vSt) (x2 : Int32) (x3 : Int32), p_X3_leastGladShare_11 a1 post fu S x2 x3 → VJ X G S 11 [(0, .ref (G.1 58)), (1, .int a1), (2, .int x2), (3, .int x3)] [] := by
  intro fu
  induction fu with
  | zero => intro S x2 x3 h; exact absurd h id
  | succ fu ih =>
    intro S x2 x3 h
    have hK11 := ih
    rw [e_X3_leastGladShare_11] at h
    refine V_iload_n C 3 dX3_leastGladShare_11 rfl rfl ?_
    refine V_bipush (v := 16) C dX3_leastGladShare_12 (by decide) ?_
    refine V_icmp_gt (tgt := 49) C dX3_leastGladShare_14 (by decide) (fun c => ?_) (fun c => ?_)
    · have h := h.1 c
      refine V_iconst (v := (-1)) C dX3_leastGladShare_49 (by decide) ?_
      exact V_iret C D dX3_leastGladShare_50 h
    · have h := h.2 c
      refine V_aload_n C 0 dX3_leastGladShare_17 rfl rfl ?_
      refine V_iload_n C 1 dX3_leastGladShare_18 rfl rfl ?_
      refine V_aload_n C 0 dX3_leastGladShare_19 rfl rfl ?_
      refine V_ga C 58 (by decide) (by decide) F_3_0 k_RX3_40 dX3_leastGladShare_20 ?_
      refine V_gr C 10 (by decide) (by decide) F_0_9 k_RX3_96 dX3_leastGladShare_23 ?_
      refine V_iload_n C 1 dX3_leastGladShare_26 rfl rfl ?_
      refine V_callSNi (As := [.ref (G.1 20), .int a1]) (rest := [.int a1, .ref (G.1 58)]) C (c_X10_at (v_l X) G (by decide) (by decide) _ _ h) KV_X10_at (List.mem_of_getElem? (i := 12) rfl) rfl rfl rfl (Nat.le_of_ble_eq_true rfl) ⟨Nat.le_of_ble_eq_true rfl, Nat.le_of_ble_eq_true rfl⟩ dX3_leastGladShare_27 (fun r20 S19 h => ?_)
      refine V_iload_n C 3 dX3_leastGladShare_30 rfl rfl ?_
      refine V_callSi (As := [.int r20, .int x3]) (rest := [.int a1, .ref (G.1 58)]) C (c_X0_partOf (v_l X) G  _ _ _ h) KV_X0_partOf k_RX3_102 rfl rfl rfl (Nat.le_of_ble_eq_true rfl) ⟨Nat.le_of_ble_eq_true rfl, Nat.le_of_ble_eq_true rfl⟩ dX3_leastGladShare_31 (fun r22 S21 h => ?_)
      refine V_iload_n C 2 dX3_leastGladShare_34 rfl rfl ?_
      refine V_callVz (As := [.int a1, .int r22, .int x2]) (rest := []) C (c_X3_isAnyGlad (v_l X) G  _ _ _ _ h) 58 3 (by decide) (by decide) (by decide) rfl KV_X3_isAnyGlad k_RX3_145 rfl rfl rfl (Nat.le_of_ble_eq_true rfl) ⟨Nat.le_of_ble_eq_true rfl, Nat.le_of_ble_eq_true rfl⟩ dX3_leastGladShare_35 (fun r24 S23 h => ?_)
      refine V_ifb_eq (tgt := 43) C dX3_leastGladShare_38 (by decide) (fun c => ?_) (fun c => ?_)
      · have h := h.1 c
        obtain ⟨y25, ey25⟩ : ∃ z : Int32, z = x3 + 1 := ⟨_, rfl⟩
        have h := h y25 ey25
        refine V_iinc (lv' := [(0, .ref (G.1 58)), (1, .int a1), (2, .int x2), (3, .int y25)]) C 3 [1, 2, 3, 0] y25 dX3_leastGladShare_43 rfl (by rw [ey25]; rfl) (by decide) rfl ?_
        refine V_goto (tgt := 11) C dX3_leastGladShare_46 (by decide) ?_
        exact hK11 _ _ _ h
      · have h := h.2 c
        refine V_iload_n C 3 dX3_leastGladShare_41 rfl rfl ?_
        exact V_iret C D dX3_leastGladShare_42 h
set_option maxHeartbeats 4000000 in
set_option maxRecDepth 100000 in
theorem c_X3_leastGladShare (l : Launch) (G : vG)    {S : vSt} (a1 : Int32) (post : Int32 → vSt → Prop) (h : p_X3_leastGladShare   S a1 post) : Met l yX3_leastGladShare (v_ws yX3_leastGladShare cX3_leastGladShare 4 (some .int)) (v_rm 3 108) (v_Pc G [.ref (G.1 58), .int a1] S) (v_Qi G post) 0 0 (v_A G) := by
  refine v_start (by decide +kernel) (Nat.le_of_ble_eq_true rfl) (fun X hl C D => ?_)
  subst hl
  have C : v_Cx X G cX3_leastGladShare RX3 4 (v_rm 3 108) := C
  show VJ X G S 0 [(0, .ref (G.1 58)), (1, .int a1)] []
  refine V_aload_n C 0 dX3_leastGladShare_0 rfl rfl ?_
  refine V_ga C 58 (by decide) (by decide) F_3_0 k_RX3_40 dX3_leastGladShare_1 ?_
  refine V_iconst (v := 2) C dX3_leastGladShare_4 (by decide) ?_
  refine V_callVi (As := [.int 2]) (rest := []) C (c_X0_ruleOf (v_l X) G v_i10 _ _ h) 10 0 (by decide) (by decide) (by decide) rfl KV_X0_ruleOf k_RX3_44 rfl rfl rfl (Nat.le_of_ble_eq_true rfl) ⟨Nat.le_of_ble_eq_true rfl, Nat.le_of_ble_eq_true rfl⟩ dX3_leastGladShare_5 (fun r18 S17 h => ?_)
  refine V_istore_n (lv' := [(0, .ref (G.1 58)), (1, .int a1), (2, .int r18)]) C [1, 2, 0] dX3_leastGladShare_8 rfl (by decide) rfl ?_
  refine V_iconst (v := 0) C dX3_leastGladShare_9 (by decide) ?_
  refine V_istore_n (lv' := [(0, .ref (G.1 58)), (1, .int a1), (2, .int r18), (3, .int 0)]) C [1, 2, 3, 0] dX3_leastGladShare_10 rfl (by decide) rfl ?_
  obtain ⟨fu11, h⟩ := h
  exact q_X3_leastGladShare_11 C D  fu11 _ _ _ h
/-! HalfAccuser$Hopes.leastGladFine(I)I -/
theorem dX3_leastGladFine_0 : decode cX3_leastGladFine 0 = .ok ((.aload_n 0), 1) := by decide +kernel
theorem dX3_leastGladFine_1 : decode cX3_leastGladFine 1 = .ok ((.getfield 40), 3) := by decide +kernel
theorem dX3_leastGladFine_4 : decode cX3_leastGladFine 4 = .ok ((.iconst 2), 1) := by decide +kernel
theorem dX3_leastGladFine_5 : decode cX3_leastGladFine 5 = .ok ((.invokevirtual 44), 3) := by decide +kernel
theorem dX3_leastGladFine_8 : decode cX3_leastGladFine 8 = .ok ((.istore_n 2), 1) := by decide +kernel
theorem dX3_leastGladFine_9 : decode cX3_leastGladFine 9 = .ok ((.iconst 1), 1) := by decide +kernel
theorem dX3_leastGladFine_10 : decode cX3_leastGladFine 10 = .ok ((.istore_n 3), 1) := by decide +kernel
theorem dX3_leastGladFine_11 : decode cX3_leastGladFine 11 = .ok ((.iload_n 3), 1) := by decide +kernel
theorem dX3_leastGladFine_12 : decode cX3_leastGladFine 12 = .ok ((.sipush 999), 3) := by decide +kernel
theorem dX3_leastGladFine_15 : decode cX3_leastGladFine 15 = .ok ((.if_icmp .gt 32), 3) := by decide +kernel
theorem dX3_leastGladFine_18 : decode cX3_leastGladFine 18 = .ok ((.aload_n 0), 1) := by decide +kernel
theorem dX3_leastGladFine_19 : decode cX3_leastGladFine 19 = .ok ((.iload_n 1), 1) := by decide +kernel
theorem dX3_leastGladFine_20 : decode cX3_leastGladFine 20 = .ok ((.iload_n 3), 1) := by decide +kernel
theorem dX3_leastGladFine_21 : decode cX3_leastGladFine 21 = .ok ((.aload_n 0), 1) := by decide +kernel
theorem dX3_leastGladFine_22 : decode cX3_leastGladFine 22 = .ok ((.getfield 40), 3) := by decide +kernel
theorem dX3_leastGladFine_25 : decode cX3_leastGladFine 25 = .ok ((.iconst 3), 1) := by decide +kernel
theorem dX3_leastGladFine_26 : decode cX3_leastGladFine 26 = .ok ((.invokevirtual 44), 3) := by decide +kernel
theorem dX3_leastGladFine_29 : decode cX3_leastGladFine 29 = .ok ((.invokestatic 102), 3) := by decide +kernel
theorem dX3_leastGladFine_32 : decode cX3_leastGladFine 32 = .ok ((.iload_n 2), 1) := by decide +kernel
theorem dX3_leastGladFine_33 : decode cX3_leastGladFine 33 = .ok ((.invokevirtual 145), 3) := by decide +kernel
theorem dX3_leastGladFine_36 : decode cX3_leastGladFine 36 = .ok ((.ifCond .eq 5), 3) := by decide +kernel
theorem dX3_leastGladFine_39 : decode cX3_leastGladFine 39 = .ok ((.iload_n 3), 1) := by decide +kernel
theorem dX3_leastGladFine_40 : decode cX3_leastGladFine 40 = .ok (.ireturn, 1) := by decide +kernel
theorem dX3_leastGladFine_41 : decode cX3_leastGladFine 41 = .ok ((.iinc 3 1), 3) := by decide +kernel
theorem dX3_leastGladFine_44 : decode cX3_leastGladFine 44 = .ok ((.goto (-33)), 3) := by decide +kernel
theorem dX3_leastGladFine_47 : decode cX3_leastGladFine 47 = .ok ((.iconst (-1)), 1) := by decide +kernel
theorem dX3_leastGladFine_48 : decode cX3_leastGladFine 48 = .ok (.ireturn, 1) := by decide +kernel
def p_X3_leastGladFine_11  (a1 : Int32)   (post : Int32 → vSt → Prop) : Nat → vSt → Int32 → Int32 → Prop
  | 0 => fun _ _ _ => False
  | fu11 + 1 => fun S x2 x3 => ((999 < x3 → post (-1) S) ∧ (¬ 999 < x3 → p_X0_ruleOf 10 S 3 (fun r20 S19 => p_X0_partOf  S19 x3 r20 (fun r22 S21 => p_X3_isAnyGlad  S21 a1 r22 x2 (fun r24 S23 => ((r24 = false → ∀ y25 : Int32, y25 = x3 + 1 → (p_X3_leastGladFine_11 a1 post fu11) S23 x2 y25) ∧ (r24 = true → post x3 S23)))))))
theorem e_X3_leastGladFine_11  (a1 : Int32)   (post : Int32 → vSt → Prop) (fu11 : Nat) (S : vSt) (x2 : Int32) (x3 : Int32) : p_X3_leastGladFine_11 a1 post (fu11 + 1) S x2 x3 = (((999 < x3 → post (-1) S) ∧ (¬ 999 < x3 → p_X0_ruleOf 10 S 3 (fun r20 S19 => p_X0_partOf  S19 x3 r20 (fun r22 S21 => p_X3_isAnyGlad  S21 a1 r22 x2 (fun r24 S23 => ((r24 = false → ∀ y25 : Int32, y25 = x3 + 1 → (p_X3_leastGladFine_11 a1 post fu11) S23 x2 y25) ∧ (r24 = true → post x3 S23)))))))) := rfl
def p_X3_leastGladFine   (S : vSt) (a1 : Int32) (post : Int32 → vSt → Prop) : Prop := p_X0_ruleOf 10 S 2 (fun r18 S17 => ∃ fu11, p_X3_leastGladFine_11 a1 post fu11 S17 r18 1)
set_option maxHeartbeats 4000000 in
set_option maxRecDepth 100000 in
theorem q_X3_leastGladFine_11 {X : vX} {G : vG}  {post : Int32 → vSt → Prop} (C : v_Cx X G cX3_leastGladFine RX3 4 (v_rm 3 108)) (D : v_Rx X G (v_Qi G post) (some .int))  {a1 : Int32}   : ∀ (fu : Nat) (S : vSt) (x2 : Int32) (x3 : Int32), p_X3_leastGladFine_11 a1 post fu S x2 x3 → VJ X G S 11 [(0, .ref (G.1 58)), (1, .int a1), (2, .int x2), (3, .int x3)] [] := by
  intro fu
  induction fu with
  | zero => intro S x2 x3 h; exact absurd h id
  | succ fu ih =>
    intro S x2 x3 h
    have hK11 := ih
    rw [e_X3_leastGladFine_11] at h
    refine V_iload_n C 3 dX3_leastGladFine_11 rfl rfl ?_
    refine V_sipush (v := 999) C dX3_leastGladFine_12 (by decide) ?_
    refine V_icmp_gt (tgt := 47) C dX3_leastGladFine_15 (by decide) (fun c => ?_) (fun c => ?_)
    · have h := h.1 c
      refine V_iconst (v := (-1)) C dX3_leastGladFine_47 (by decide) ?_
      exact V_iret C D dX3_leastGladFine_48 h
    · have h := h.2 c
      refine V_aload_n C 0 dX3_leastGladFine_18 rfl rfl ?_
      refine V_iload_n C 1 dX3_leastGladFine_19 rfl rfl ?_
      refine V_iload_n C 3 dX3_leastGladFine_20 rfl rfl ?_
      refine V_aload_n C 0 dX3_leastGladFine_21 rfl rfl ?_
      refine V_ga C 58 (by decide) (by decide) F_3_0 k_RX3_40 dX3_leastGladFine_22 ?_
      refine V_iconst (v := 3) C dX3_leastGladFine_25 (by decide) ?_
      refine V_callVi (As := [.int 3]) (rest := [.int x3, .int a1, .ref (G.1 58)]) C (c_X0_ruleOf (v_l X) G v_i10 _ _ h) 10 0 (by decide) (by decide) (by decide) rfl KV_X0_ruleOf k_RX3_44 rfl rfl rfl (Nat.le_of_ble_eq_true rfl) ⟨Nat.le_of_ble_eq_true rfl, Nat.le_of_ble_eq_true rfl⟩ dX3_leastGladFine_26 (fun r20 S19 h => ?_)
      refine V_callSi (As := [.int x3, .int r20]) (rest := [.int a1, .ref (G.1 58)]) C (c_X0_partOf (v_l X) G  _ _ _ h) KV_X0_partOf k_RX3_102 rfl rfl rfl (Nat.le_of_ble_eq_true rfl) ⟨Nat.le_of_ble_eq_true rfl, Nat.le_of_ble_eq_true rfl⟩ dX3_leastGladFine_29 (fun r22 S21 h => ?_)
      refine V_iload_n C 2 dX3_leastGladFine_32 rfl rfl ?_
      refine V_callVz (As := [.int a1, .int r22, .int x2]) (rest := []) C (c_X3_isAnyGlad (v_l X) G  _ _ _ _ h) 58 3 (by decide) (by decide) (by decide) rfl KV_X3_isAnyGlad k_RX3_145 rfl rfl rfl (Nat.le_of_ble_eq_true rfl) ⟨Nat.le_of_ble_eq_true rfl, Nat.le_of_ble_eq_true rfl⟩ dX3_leastGladFine_33 (fun r24 S23 h => ?_)
      refine V_ifb_eq (tgt := 41) C dX3_leastGladFine_36 (by decide) (fun c => ?_) (fun c => ?_)
      · have h := h.1 c
        obtain ⟨y25, ey25⟩ : ∃ z : Int32, z = x3 + 1 := ⟨_, rfl⟩
        have h := h y25 ey25
        refine V_iinc (lv' := [(0, .ref (G.1 58)), (1, .int a1), (2, .int x2), (3, .int y25)]) C 3 [1, 2, 3, 0] y25 dX3_leastGladFine_41 rfl (by rw [ey25]; rfl) (by decide) rfl ?_
        refine V_goto (tgt := 11) C dX3_leastGladFine_44 (by decide) ?_
        exact hK11 _ _ _ h
      · have h := h.2 c
        refine V_iload_n C 3 dX3_leastGladFine_39 rfl rfl ?_
        exact V_iret C D dX3_leastGladFine_40 h
set_option maxHeartbeats 4000000 in
set_option maxRecDepth 100000 in
theorem c_X3_leastGladFine (l : Launch) (G : vG)    {S : vSt} (a1 : Int32) (post : Int32 → vSt → Prop) (h : p_X3_leastGladFine   S a1 post) : Met l yX3_leastGladFine (v_ws yX3_leastGladFine cX3_leastGladFine 4 (some .int)) (v_rm 3 108) (v_Pc G [.ref (G.1 58), .int a1] S) (v_Qi G post) 0 0 (v_A G) := by
  refine v_start (by decide +kernel) (Nat.le_of_ble_eq_true rfl) (fun X hl C D => ?_)
  subst hl
  have C : v_Cx X G cX3_leastGladFine RX3 4 (v_rm 3 108) := C
  show VJ X G S 0 [(0, .ref (G.1 58)), (1, .int a1)] []
  refine V_aload_n C 0 dX3_leastGladFine_0 rfl rfl ?_
  refine V_ga C 58 (by decide) (by decide) F_3_0 k_RX3_40 dX3_leastGladFine_1 ?_
  refine V_iconst (v := 2) C dX3_leastGladFine_4 (by decide) ?_
  refine V_callVi (As := [.int 2]) (rest := []) C (c_X0_ruleOf (v_l X) G v_i10 _ _ h) 10 0 (by decide) (by decide) (by decide) rfl KV_X0_ruleOf k_RX3_44 rfl rfl rfl (Nat.le_of_ble_eq_true rfl) ⟨Nat.le_of_ble_eq_true rfl, Nat.le_of_ble_eq_true rfl⟩ dX3_leastGladFine_5 (fun r18 S17 h => ?_)
  refine V_istore_n (lv' := [(0, .ref (G.1 58)), (1, .int a1), (2, .int r18)]) C [1, 2, 0] dX3_leastGladFine_8 rfl (by decide) rfl ?_
  refine V_iconst (v := 1) C dX3_leastGladFine_9 (by decide) ?_
  refine V_istore_n (lv' := [(0, .ref (G.1 58)), (1, .int a1), (2, .int r18), (3, .int 1)]) C [1, 2, 3, 0] dX3_leastGladFine_10 rfl (by decide) rfl ?_
  obtain ⟨fu11, h⟩ := h
  exact q_X3_leastGladFine_11 C D  fu11 _ _ _ h
/-! HalfAccuser$Hopes.mostGladPenalty(I)I -/
theorem dX3_mostGladPenalty_0 : decode cX3_mostGladPenalty 0 = .ok ((.aload_n 0), 1) := by decide +kernel
theorem dX3_mostGladPenalty_1 : decode cX3_mostGladPenalty 1 = .ok ((.getfield 40), 3) := by decide +kernel
theorem dX3_mostGladPenalty_4 : decode cX3_mostGladPenalty 4 = .ok ((.getfield 96), 3) := by decide +kernel
theorem dX3_mostGladPenalty_7 : decode cX3_mostGladPenalty 7 = .ok ((.iload_n 1), 1) := by decide +kernel
theorem dX3_mostGladPenalty_8 : decode cX3_mostGladPenalty 8 = .ok ((.invokestatic 99), 3) := by decide +kernel
theorem dX3_mostGladPenalty_11 : decode cX3_mostGladPenalty 11 = .ok ((.aload_n 0), 1) := by decide +kernel
theorem dX3_mostGladPenalty_12 : decode cX3_mostGladPenalty 12 = .ok ((.getfield 40), 3) := by decide +kernel
theorem dX3_mostGladPenalty_15 : decode cX3_mostGladPenalty 15 = .ok ((.iconst 3), 1) := by decide +kernel
theorem dX3_mostGladPenalty_16 : decode cX3_mostGladPenalty 16 = .ok ((.invokevirtual 44), 3) := by decide +kernel
theorem dX3_mostGladPenalty_19 : decode cX3_mostGladPenalty 19 = .ok ((.invokestatic 102), 3) := by decide +kernel
theorem dX3_mostGladPenalty_22 : decode cX3_mostGladPenalty 22 = .ok ((.istore_n 2), 1) := by decide +kernel
theorem dX3_mostGladPenalty_23 : decode cX3_mostGladPenalty 23 = .ok ((.sipush 999), 3) := by decide +kernel
theorem dX3_mostGladPenalty_26 : decode cX3_mostGladPenalty 26 = .ok ((.istore_n 3), 1) := by decide +kernel
theorem dX3_mostGladPenalty_27 : decode cX3_mostGladPenalty 27 = .ok ((.iload_n 3), 1) := by decide +kernel
theorem dX3_mostGladPenalty_28 : decode cX3_mostGladPenalty 28 = .ok ((.ifCond .lt 21), 3) := by decide +kernel
theorem dX3_mostGladPenalty_31 : decode cX3_mostGladPenalty 31 = .ok ((.aload_n 0), 1) := by decide +kernel
theorem dX3_mostGladPenalty_32 : decode cX3_mostGladPenalty 32 = .ok ((.iload_n 1), 1) := by decide +kernel
theorem dX3_mostGladPenalty_33 : decode cX3_mostGladPenalty 33 = .ok ((.iload_n 2), 1) := by decide +kernel
theorem dX3_mostGladPenalty_34 : decode cX3_mostGladPenalty 34 = .ok ((.iload_n 3), 1) := by decide +kernel
theorem dX3_mostGladPenalty_35 : decode cX3_mostGladPenalty 35 = .ok ((.invokevirtual 145), 3) := by decide +kernel
theorem dX3_mostGladPenalty_38 : decode cX3_mostGladPenalty 38 = .ok ((.ifCond .eq 5), 3) := by decide +kernel
theorem dX3_mostGladPenalty_41 : decode cX3_mostGladPenalty 41 = .ok ((.iload_n 3), 1) := by decide +kernel
theorem dX3_mostGladPenalty_42 : decode cX3_mostGladPenalty 42 = .ok (.ireturn, 1) := by decide +kernel
theorem dX3_mostGladPenalty_43 : decode cX3_mostGladPenalty 43 = .ok ((.iinc 3 (-1)), 3) := by decide +kernel
theorem dX3_mostGladPenalty_46 : decode cX3_mostGladPenalty 46 = .ok ((.goto (-19)), 3) := by decide +kernel
theorem dX3_mostGladPenalty_49 : decode cX3_mostGladPenalty 49 = .ok ((.iconst (-1)), 1) := by decide +kernel
theorem dX3_mostGladPenalty_50 : decode cX3_mostGladPenalty 50 = .ok (.ireturn, 1) := by decide +kernel
def p_X3_mostGladPenalty_27  (a1 : Int32)   (post : Int32 → vSt → Prop) : Nat → vSt → Int32 → Int32 → Prop
  | 0 => fun _ _ _ => False
  | fu27 + 1 => fun S x2 x3 => ((x3 < 0 → post (-1) S) ∧ (¬ x3 < 0 → p_X3_isAnyGlad  S a1 x2 x3 (fun r20 S19 => ((r20 = false → ∀ y21 : Int32, y21 = x3 + (-1) → (p_X3_mostGladPenalty_27 a1 post fu27) S19 x2 y21) ∧ (r20 = true → post x3 S19)))))
theorem e_X3_mostGladPenalty_27  (a1 : Int32)   (post : Int32 → vSt → Prop) (fu27 : Nat) (S : vSt) (x2 : Int32) (x3 : Int32) : p_X3_mostGladPenalty_27 a1 post (fu27 + 1) S x2 x3 = (((x3 < 0 → post (-1) S) ∧ (¬ x3 < 0 → p_X3_isAnyGlad  S a1 x2 x3 (fun r20 S19 => ((r20 = false → ∀ y21 : Int32, y21 = x3 + (-1) → (p_X3_mostGladPenalty_27 a1 post fu27) S19 x2 y21) ∧ (r20 = true → post x3 S19)))))) := rfl
def p_X3_mostGladPenalty   (S : vSt) (a1 : Int32) (post : Int32 → vSt → Prop) : Prop := p_X10_at 20 10 S a1 (fun r14 S13 => p_X0_ruleOf 10 S13 3 (fun r16 S15 => p_X0_partOf  S15 r14 r16 (fun r18 S17 => ∃ fu27, p_X3_mostGladPenalty_27 a1 post fu27 S17 r18 999)))
set_option maxHeartbeats 4000000 in
set_option maxRecDepth 100000 in
theorem q_X3_mostGladPenalty_27 {X : vX} {G : vG}  {post : Int32 → vSt → Prop} (C : v_Cx X G cX3_mostGladPenalty RX3 4 (v_rm 3 108)) (D : v_Rx X G (v_Qi G post) (some .int))  {a1 : Int32}   : ∀ (fu : Nat) (S : vSt) (x2 : Int32) (x3 : Int32), p_X3_mostGladPenalty_27 a1 post fu S x2 x3 → VJ X G S 27 [(0, .ref (G.1 58)), (1, .int a1), (2, .int x2), (3, .int x3)] [] := by
  intro fu
  induction fu with
  | zero => intro S x2 x3 h; exact absurd h id
  | succ fu ih =>
    intro S x2 x3 h
    have hK27 := ih
    rw [e_X3_mostGladPenalty_27] at h
    refine V_iload_n C 3 dX3_mostGladPenalty_27 rfl rfl ?_
    refine V_if_lt (tgt := 49) C dX3_mostGladPenalty_28 (by decide) (fun c => ?_) (fun c => ?_)
    · have h := h.1 c
      refine V_iconst (v := (-1)) C dX3_mostGladPenalty_49 (by decide) ?_
      exact V_iret C D dX3_mostGladPenalty_50 h
    · have h := h.2 c
      refine V_aload_n C 0 dX3_mostGladPenalty_31 rfl rfl ?_
      refine V_iload_n C 1 dX3_mostGladPenalty_32 rfl rfl ?_
      refine V_iload_n C 2 dX3_mostGladPenalty_33 rfl rfl ?_
      refine V_iload_n C 3 dX3_mostGladPenalty_34 rfl rfl ?_
      refine V_callVz (As := [.int a1, .int x2, .int x3]) (rest := []) C (c_X3_isAnyGlad (v_l X) G  _ _ _ _ h) 58 3 (by decide) (by decide) (by decide) rfl KV_X3_isAnyGlad k_RX3_145 rfl rfl rfl (Nat.le_of_ble_eq_true rfl) ⟨Nat.le_of_ble_eq_true rfl, Nat.le_of_ble_eq_true rfl⟩ dX3_mostGladPenalty_35 (fun r20 S19 h => ?_)
      refine V_ifb_eq (tgt := 43) C dX3_mostGladPenalty_38 (by decide) (fun c => ?_) (fun c => ?_)
      · have h := h.1 c
        obtain ⟨y21, ey21⟩ : ∃ z : Int32, z = x3 + (-1) := ⟨_, rfl⟩
        have h := h y21 ey21
        refine V_iinc (lv' := [(0, .ref (G.1 58)), (1, .int a1), (2, .int x2), (3, .int y21)]) C 3 [1, 2, 3, 0] y21 dX3_mostGladPenalty_43 rfl (by rw [ey21]; rfl) (by decide) rfl ?_
        refine V_goto (tgt := 27) C dX3_mostGladPenalty_46 (by decide) ?_
        exact hK27 _ _ _ h
      · have h := h.2 c
        refine V_iload_n C 3 dX3_mostGladPenalty_41 rfl rfl ?_
        exact V_iret C D dX3_mostGladPenalty_42 h
set_option maxHeartbeats 4000000 in
set_option maxRecDepth 100000 in
theorem c_X3_mostGladPenalty (l : Launch) (G : vG)    {S : vSt} (a1 : Int32) (post : Int32 → vSt → Prop) (h : p_X3_mostGladPenalty   S a1 post) : Met l yX3_mostGladPenalty (v_ws yX3_mostGladPenalty cX3_mostGladPenalty 4 (some .int)) (v_rm 3 108) (v_Pc G [.ref (G.1 58), .int a1] S) (v_Qi G post) 0 0 (v_A G) := by
  refine v_start (by decide +kernel) (Nat.le_of_ble_eq_true rfl) (fun X hl C D => ?_)
  subst hl
  have C : v_Cx X G cX3_mostGladPenalty RX3 4 (v_rm 3 108) := C
  show VJ X G S 0 [(0, .ref (G.1 58)), (1, .int a1)] []
  refine V_aload_n C 0 dX3_mostGladPenalty_0 rfl rfl ?_
  refine V_ga C 58 (by decide) (by decide) F_3_0 k_RX3_40 dX3_mostGladPenalty_1 ?_
  refine V_gr C 10 (by decide) (by decide) F_0_9 k_RX3_96 dX3_mostGladPenalty_4 ?_
  refine V_iload_n C 1 dX3_mostGladPenalty_7 rfl rfl ?_
  refine V_callSNi (As := [.ref (G.1 20), .int a1]) (rest := []) C (c_X10_at (v_l X) G (by decide) (by decide) _ _ h) KV_X10_at (List.mem_of_getElem? (i := 12) rfl) rfl rfl rfl (Nat.le_of_ble_eq_true rfl) ⟨Nat.le_of_ble_eq_true rfl, Nat.le_of_ble_eq_true rfl⟩ dX3_mostGladPenalty_8 (fun r14 S13 h => ?_)
  refine V_aload_n C 0 dX3_mostGladPenalty_11 rfl rfl ?_
  refine V_ga C 58 (by decide) (by decide) F_3_0 k_RX3_40 dX3_mostGladPenalty_12 ?_
  refine V_iconst (v := 3) C dX3_mostGladPenalty_15 (by decide) ?_
  refine V_callVi (As := [.int 3]) (rest := [.int r14]) C (c_X0_ruleOf (v_l X) G v_i10 _ _ h) 10 0 (by decide) (by decide) (by decide) rfl KV_X0_ruleOf k_RX3_44 rfl rfl rfl (Nat.le_of_ble_eq_true rfl) ⟨Nat.le_of_ble_eq_true rfl, Nat.le_of_ble_eq_true rfl⟩ dX3_mostGladPenalty_16 (fun r16 S15 h => ?_)
  refine V_callSi (As := [.int r14, .int r16]) (rest := []) C (c_X0_partOf (v_l X) G  _ _ _ h) KV_X0_partOf k_RX3_102 rfl rfl rfl (Nat.le_of_ble_eq_true rfl) ⟨Nat.le_of_ble_eq_true rfl, Nat.le_of_ble_eq_true rfl⟩ dX3_mostGladPenalty_19 (fun r18 S17 h => ?_)
  refine V_istore_n (lv' := [(0, .ref (G.1 58)), (1, .int a1), (2, .int r18)]) C [1, 2, 0] dX3_mostGladPenalty_22 rfl (by decide) rfl ?_
  refine V_sipush (v := 999) C dX3_mostGladPenalty_23 (by decide) ?_
  refine V_istore_n (lv' := [(0, .ref (G.1 58)), (1, .int a1), (2, .int r18), (3, .int 999)]) C [1, 2, 3, 0] dX3_mostGladPenalty_26 rfl (by decide) rfl ?_
  obtain ⟨fu27, h⟩ := h
  exact q_X3_mostGladPenalty_27 C D  fu27 _ _ _ h
/-! HalfAccuser$Hopes.gladSet(II)I -/
theorem dX3_gladSet_0 : decode cX3_gladSet 0 = .ok ((.iconst 0), 1) := by decide +kernel
theorem dX3_gladSet_1 : decode cX3_gladSet 1 = .ok ((.istore_n 3), 1) := by decide +kernel
theorem dX3_gladSet_2 : decode cX3_gladSet 2 = .ok ((.iconst 0), 1) := by decide +kernel
theorem dX3_gladSet_3 : decode cX3_gladSet 3 = .ok ((.istore 4), 2) := by decide +kernel
theorem dX3_gladSet_5 : decode cX3_gladSet 5 = .ok ((.iload 4), 2) := by decide +kernel
theorem dX3_gladSet_7 : decode cX3_gladSet 7 = .ok ((.aload_n 0), 1) := by decide +kernel
theorem dX3_gladSet_8 : decode cX3_gladSet 8 = .ok ((.getfield 40), 3) := by decide +kernel
theorem dX3_gladSet_11 : decode cX3_gladSet 11 = .ok ((.getfield 82), 3) := by decide +kernel
theorem dX3_gladSet_14 : decode cX3_gladSet 14 = .ok ((.if_icmp .ge 42), 3) := by decide +kernel
theorem dX3_gladSet_17 : decode cX3_gladSet 17 = .ok ((.aload_n 0), 1) := by decide +kernel
theorem dX3_gladSet_18 : decode cX3_gladSet 18 = .ok ((.iload 4), 2) := by decide +kernel
theorem dX3_gladSet_20 : decode cX3_gladSet 20 = .ok ((.aload_n 0), 1) := by decide +kernel
theorem dX3_gladSet_21 : decode cX3_gladSet 21 = .ok ((.getfield 40), 3) := by decide +kernel
theorem dX3_gladSet_24 : decode cX3_gladSet 24 = .ok ((.getfield 96), 3) := by decide +kernel
theorem dX3_gladSet_27 : decode cX3_gladSet 27 = .ok ((.iload 4), 2) := by decide +kernel
theorem dX3_gladSet_29 : decode cX3_gladSet 29 = .ok ((.invokestatic 99), 3) := by decide +kernel
theorem dX3_gladSet_32 : decode cX3_gladSet 32 = .ok ((.iload_n 1), 1) := by decide +kernel
theorem dX3_gladSet_33 : decode cX3_gladSet 33 = .ok ((.invokestatic 102), 3) := by decide +kernel
theorem dX3_gladSet_36 : decode cX3_gladSet 36 = .ok ((.iload_n 2), 1) := by decide +kernel
theorem dX3_gladSet_37 : decode cX3_gladSet 37 = .ok ((.invokevirtual 145), 3) := by decide +kernel
theorem dX3_gladSet_40 : decode cX3_gladSet 40 = .ok ((.ifCond .eq 10), 3) := by decide +kernel
theorem dX3_gladSet_43 : decode cX3_gladSet 43 = .ok ((.iload_n 3), 1) := by decide +kernel
theorem dX3_gladSet_44 : decode cX3_gladSet 44 = .ok ((.iconst 1), 1) := by decide +kernel
theorem dX3_gladSet_45 : decode cX3_gladSet 45 = .ok ((.iload 4), 2) := by decide +kernel
theorem dX3_gladSet_47 : decode cX3_gladSet 47 = .ok (.ishl, 1) := by decide +kernel
theorem dX3_gladSet_48 : decode cX3_gladSet 48 = .ok (.ior, 1) := by decide +kernel
theorem dX3_gladSet_49 : decode cX3_gladSet 49 = .ok ((.istore_n 3), 1) := by decide +kernel
theorem dX3_gladSet_50 : decode cX3_gladSet 50 = .ok ((.iinc 4 1), 3) := by decide +kernel
theorem dX3_gladSet_53 : decode cX3_gladSet 53 = .ok ((.goto (-48)), 3) := by decide +kernel
theorem dX3_gladSet_56 : decode cX3_gladSet 56 = .ok ((.iload_n 3), 1) := by decide +kernel
theorem dX3_gladSet_57 : decode cX3_gladSet 57 = .ok (.ireturn, 1) := by decide +kernel
def p_X3_gladSet_50  (a1 : Int32) (a2 : Int32)  (K5 : vSt → Int32 → Int32 → Prop) (post : Int32 → vSt → Prop) (S : vSt) (x3 : Int32) (x4 : Int32) : Prop := ∀ y23 : Int32, y23 = x4 + 1 → K5 S x3 y23
def p_X3_gladSet_5  (a1 : Int32) (a2 : Int32)   (post : Int32 → vSt → Prop) : Nat → vSt → Int32 → Int32 → Prop
  | 0 => fun _ _ _ => False
  | fu5 + 1 => fun S x3 x4 => (((S.1 10 16) ≤ x4 → post x3 S) ∧ (¬ (S.1 10 16) ≤ x4 → p_X10_at 20 10 S x4 (fun r18 S17 => p_X0_partOf  S17 r18 a1 (fun r20 S19 => p_X3_isAnyGlad  S19 x4 r20 a2 (fun r22 S21 => ((r22 = false → p_X3_gladSet_50 a1 a2 (p_X3_gladSet_5 a1 a2 post fu5) post S21 x3 x4) ∧ (r22 = true → ∀ y23 : Int32, y23 = (x3 ||| ((1 : Int32) <<< (x4 &&& 31))) → p_X3_gladSet_50 a1 a2 (p_X3_gladSet_5 a1 a2 post fu5) post S21 y23 x4)))))))
theorem e_X3_gladSet_5  (a1 : Int32) (a2 : Int32)   (post : Int32 → vSt → Prop) (fu5 : Nat) (S : vSt) (x3 : Int32) (x4 : Int32) : p_X3_gladSet_5 a1 a2 post (fu5 + 1) S x3 x4 = ((((S.1 10 16) ≤ x4 → post x3 S) ∧ (¬ (S.1 10 16) ≤ x4 → p_X10_at 20 10 S x4 (fun r18 S17 => p_X0_partOf  S17 r18 a1 (fun r20 S19 => p_X3_isAnyGlad  S19 x4 r20 a2 (fun r22 S21 => ((r22 = false → p_X3_gladSet_50 a1 a2 (p_X3_gladSet_5 a1 a2 post fu5) post S21 x3 x4) ∧ (r22 = true → ∀ y23 : Int32, y23 = (x3 ||| ((1 : Int32) <<< (x4 &&& 31))) → p_X3_gladSet_50 a1 a2 (p_X3_gladSet_5 a1 a2 post fu5) post S21 y23 x4)))))))) := rfl
def p_X3_gladSet   (S : vSt) (a1 : Int32) (a2 : Int32) (post : Int32 → vSt → Prop) : Prop := ∃ fu5, p_X3_gladSet_5 a1 a2 post fu5 S 0 0
set_option maxHeartbeats 4000000 in
set_option maxRecDepth 100000 in
theorem q_X3_gladSet_50 {X : vX} {G : vG}  {post : Int32 → vSt → Prop} (C : v_Cx X G cX3_gladSet RX3 5 (v_rm 3 108)) (D : v_Rx X G (v_Qi G post) (some .int))  {a1 : Int32} {a2 : Int32}  {K5 : vSt → Int32 → Int32 → Prop} (hK5 : ∀ S x3 x4, K5 S x3 x4 → VJ X G S 5 [(0, .ref (G.1 58)), (1, .int a1), (2, .int a2), (3, .int x3), (4, .int x4)] []) : ∀ (S : vSt) (x3 : Int32) (x4 : Int32), p_X3_gladSet_50 a1 a2 K5 post S x3 x4 → VJ X G S 50 [(0, .ref (G.1 58)), (1, .int a1), (2, .int a2), (3, .int x3), (4, .int x4)] [] := by
  intro S x3 x4 h
  obtain ⟨y23, ey23⟩ : ∃ z : Int32, z = x4 + 1 := ⟨_, rfl⟩
  have h := h y23 ey23
  refine V_iinc (lv' := [(0, .ref (G.1 58)), (1, .int a1), (2, .int a2), (3, .int x3), (4, .int y23)]) C 4 [1, 2, 3, 4, 0] y23 dX3_gladSet_50 rfl (by rw [ey23]; rfl) (by decide) rfl ?_
  refine V_goto (tgt := 5) C dX3_gladSet_53 (by decide) ?_
  exact hK5 _ _ _ h
set_option maxHeartbeats 4000000 in
set_option maxRecDepth 100000 in
theorem q_X3_gladSet_5 {X : vX} {G : vG}  {post : Int32 → vSt → Prop} (C : v_Cx X G cX3_gladSet RX3 5 (v_rm 3 108)) (D : v_Rx X G (v_Qi G post) (some .int))  {a1 : Int32} {a2 : Int32}   : ∀ (fu : Nat) (S : vSt) (x3 : Int32) (x4 : Int32), p_X3_gladSet_5 a1 a2 post fu S x3 x4 → VJ X G S 5 [(0, .ref (G.1 58)), (1, .int a1), (2, .int a2), (3, .int x3), (4, .int x4)] [] := by
  intro fu
  induction fu with
  | zero => intro S x3 x4 h; exact absurd h id
  | succ fu ih =>
    intro S x3 x4 h
    have hK5 := ih
    rw [e_X3_gladSet_5] at h
    refine V_iload C 4 dX3_gladSet_5 rfl ?_
    refine V_aload_n C 0 dX3_gladSet_7 rfl rfl ?_
    refine V_ga C 58 (by decide) (by decide) F_3_0 k_RX3_40 dX3_gladSet_8 ?_
    refine V_gi C 10 (by decide) (by decide) F_0_16 k_RX3_82 dX3_gladSet_11 ?_
    refine V_icmp_ge (tgt := 56) C dX3_gladSet_14 (by decide) (fun c => ?_) (fun c => ?_)
    · have h := h.1 c
      refine V_iload_n C 3 dX3_gladSet_56 rfl rfl ?_
      exact V_iret C D dX3_gladSet_57 h
    · have h := h.2 c
      refine V_aload_n C 0 dX3_gladSet_17 rfl rfl ?_
      refine V_iload C 4 dX3_gladSet_18 rfl ?_
      refine V_aload_n C 0 dX3_gladSet_20 rfl rfl ?_
      refine V_ga C 58 (by decide) (by decide) F_3_0 k_RX3_40 dX3_gladSet_21 ?_
      refine V_gr C 10 (by decide) (by decide) F_0_9 k_RX3_96 dX3_gladSet_24 ?_
      refine V_iload C 4 dX3_gladSet_27 rfl ?_
      refine V_callSNi (As := [.ref (G.1 20), .int x4]) (rest := [.int x4, .ref (G.1 58)]) C (c_X10_at (v_l X) G (by decide) (by decide) _ _ h) KV_X10_at (List.mem_of_getElem? (i := 12) rfl) rfl rfl rfl (Nat.le_of_ble_eq_true rfl) ⟨Nat.le_of_ble_eq_true rfl, Nat.le_of_ble_eq_true rfl⟩ dX3_gladSet_29 (fun r18 S17 h => ?_)
      refine V_iload_n C 1 dX3_gladSet_32 rfl rfl ?_
      refine V_callSi (As := [.int r18, .int a1]) (rest := [.int x4, .ref (G.1 58)]) C (c_X0_partOf (v_l X) G  _ _ _ h) KV_X0_partOf k_RX3_102 rfl rfl rfl (Nat.le_of_ble_eq_true rfl) ⟨Nat.le_of_ble_eq_true rfl, Nat.le_of_ble_eq_true rfl⟩ dX3_gladSet_33 (fun r20 S19 h => ?_)
      refine V_iload_n C 2 dX3_gladSet_36 rfl rfl ?_
      refine V_callVz (As := [.int x4, .int r20, .int a2]) (rest := []) C (c_X3_isAnyGlad (v_l X) G  _ _ _ _ h) 58 3 (by decide) (by decide) (by decide) rfl KV_X3_isAnyGlad k_RX3_145 rfl rfl rfl (Nat.le_of_ble_eq_true rfl) ⟨Nat.le_of_ble_eq_true rfl, Nat.le_of_ble_eq_true rfl⟩ dX3_gladSet_37 (fun r22 S21 h => ?_)
      refine V_ifb_eq (tgt := 50) C dX3_gladSet_40 (by decide) (fun c => ?_) (fun c => ?_)
      · have h := h.1 c
        exact q_X3_gladSet_50 C D hK5 _ _ _ h
      · have h := h.2 c
        refine V_iload_n C 3 dX3_gladSet_43 rfl rfl ?_
        refine V_iconst (v := 1) C dX3_gladSet_44 (by decide) ?_
        refine V_iload C 4 dX3_gladSet_45 rfl ?_
        refine V_ishl C dX3_gladSet_47 ?_
        refine V_ior C dX3_gladSet_48 ?_
        refine V_topi (fun y23 ey23 => ?_)
        have h := h y23 ey23
        refine V_istore_n (lv' := [(0, .ref (G.1 58)), (1, .int a1), (2, .int a2), (3, .int y23), (4, .int x4)]) C [1, 2, 3, 0, 4] dX3_gladSet_49 rfl (by decide) rfl ?_
        exact q_X3_gladSet_50 C D hK5 _ _ _ h
set_option maxHeartbeats 4000000 in
set_option maxRecDepth 100000 in
theorem c_X3_gladSet (l : Launch) (G : vG)    {S : vSt} (a1 : Int32) (a2 : Int32) (post : Int32 → vSt → Prop) (h : p_X3_gladSet   S a1 a2 post) : Met l yX3_gladSet (v_ws yX3_gladSet cX3_gladSet 5 (some .int)) (v_rm 3 108) (v_Pc G [.ref (G.1 58), .int a1, .int a2] S) (v_Qi G post) 0 0 (v_A G) := by
  refine v_start (by decide +kernel) (Nat.le_of_ble_eq_true rfl) (fun X hl C D => ?_)
  subst hl
  have C : v_Cx X G cX3_gladSet RX3 5 (v_rm 3 108) := C
  show VJ X G S 0 [(0, .ref (G.1 58)), (1, .int a1), (2, .int a2)] []
  refine V_iconst (v := 0) C dX3_gladSet_0 (by decide) ?_
  refine V_istore_n (lv' := [(0, .ref (G.1 58)), (1, .int a1), (2, .int a2), (3, .int 0)]) C [1, 2, 3, 0] dX3_gladSet_1 rfl (by decide) rfl ?_
  refine V_iconst (v := 0) C dX3_gladSet_2 (by decide) ?_
  refine V_istore (lv' := [(0, .ref (G.1 58)), (1, .int a1), (2, .int a2), (3, .int 0), (4, .int 0)]) C [1, 2, 3, 4, 0] dX3_gladSet_3 (by decide) rfl ?_
  obtain ⟨fu5, h⟩ := h
  exact q_X3_gladSet_5 C D  fu5 _ _ _ h
/-! HalfAccuser$Life.sow(I)V -/
theorem dX4_sow_0 : decode cX4_sow 0 = .ok ((.aload_n 0), 1) := by decide +kernel
theorem dX4_sow_1 : decode cX4_sow 1 = .ok ((.iload_n 1), 1) := by decide +kernel
theorem dX4_sow_2 : decode cX4_sow 2 = .ok ((.putfield 15), 3) := by decide +kernel
theorem dX4_sow_5 : decode cX4_sow 5 = .ok (.return_, 1) := by decide +kernel
def p_X4_sow   (S : vSt) (a1 : Int32) (post : vSt → Prop) : Prop := ∀ S2, S2 = v_si S 74 2 a1 → post S2
set_option maxHeartbeats 4000000 in
set_option maxRecDepth 100000 in
theorem c_X4_sow (l : Launch) (G : vG)    {S : vSt} (a1 : Int32) (post : vSt → Prop) (h : p_X4_sow   S a1 post) : Met l yX4_sow (v_ws yX4_sow cX4_sow 2 none) (v_rm 0 40) (v_Pc G [.ref (G.1 74), .int a1] S) (v_Qv G post) 0 0 (v_A G) := by
  refine v_start (by decide +kernel) (Nat.le_of_ble_eq_true rfl) (fun X hl C D => ?_)
  subst hl
  have C : v_Cx X G cX4_sow RX4 2 (v_rm 0 40) := C
  show VJ X G S 0 [(0, .ref (G.1 74)), (1, .int a1)] []
  refine V_aload_n C 0 dX4_sow_0 rfl rfl ?_
  refine V_iload_n C 1 dX4_sow_1 rfl rfl ?_
  refine V_pi C 74 (by decide) (by decide) P_4_2 k_RX4_15 dX4_sow_2 ?_
  refine V_topS (fun S2 eS2 => ?_)
  have h := h S2 eS2
  exact V_vret C D dX4_sow_5 h
/-! HalfAccuser$Life.draw(I)I -/
theorem dX4_draw_0 : decode cX4_draw 0 = .ok ((.aload_n 0), 1) := by decide +kernel
theorem dX4_draw_1 : decode cX4_draw 1 = .ok ((.aload_n 0), 1) := by decide +kernel
theorem dX4_draw_2 : decode cX4_draw 2 = .ok ((.getfield 15), 3) := by decide +kernel
theorem dX4_draw_5 : decode cX4_draw 5 = .ok ((.sipush 2971), 3) := by decide +kernel
theorem dX4_draw_8 : decode cX4_draw 8 = .ok (.imul, 1) := by decide +kernel
theorem dX4_draw_9 : decode cX4_draw 9 = .ok ((.sipush 10739), 3) := by decide +kernel
theorem dX4_draw_12 : decode cX4_draw 12 = .ok (.iadd, 1) := by decide +kernel
theorem dX4_draw_13 : decode cX4_draw 13 = .ok ((.ldc 19), 2) := by decide +kernel
theorem dX4_draw_15 : decode cX4_draw 15 = .ok (.iand, 1) := by decide +kernel
theorem dX4_draw_16 : decode cX4_draw 16 = .ok ((.putfield 15), 3) := by decide +kernel
theorem dX4_draw_19 : decode cX4_draw 19 = .ok ((.iload_n 1), 1) := by decide +kernel
theorem dX4_draw_20 : decode cX4_draw 20 = .ok ((.ifCond .le 15), 3) := by decide +kernel
theorem dX4_draw_23 : decode cX4_draw 23 = .ok ((.aload_n 0), 1) := by decide +kernel
theorem dX4_draw_24 : decode cX4_draw 24 = .ok ((.getfield 15), 3) := by decide +kernel
theorem dX4_draw_27 : decode cX4_draw 27 = .ok ((.bipush 8), 2) := by decide +kernel
theorem dX4_draw_29 : decode cX4_draw 29 = .ok (.idiv, 1) := by decide +kernel
theorem dX4_draw_30 : decode cX4_draw 30 = .ok ((.iload_n 1), 1) := by decide +kernel
theorem dX4_draw_31 : decode cX4_draw 31 = .ok (.irem, 1) := by decide +kernel
theorem dX4_draw_32 : decode cX4_draw 32 = .ok ((.goto 4), 3) := by decide +kernel
theorem dX4_draw_35 : decode cX4_draw 35 = .ok ((.iconst 0), 1) := by decide +kernel
theorem dX4_draw_36 : decode cX4_draw 36 = .ok (.ireturn, 1) := by decide +kernel
def p_X4_draw   (S : vSt) (a1 : Int32) (post : Int32 → vSt → Prop) : Prop := ∀ S2, S2 = v_si S 74 2 ((((S.1 74 2) * 2971) + 10739) &&& 65535) → ((a1 ≤ 0 → post 0 S2) ∧ (¬ a1 ≤ 0 → (¬ a1 = 0 ∧ post (((S2.1 74 2) / 8) - ((S2.1 74 2) / 8) / a1 * a1) S2)))
set_option maxHeartbeats 4000000 in
set_option maxRecDepth 100000 in
theorem c_X4_draw (l : Launch) (G : vG)    {S : vSt} (a1 : Int32) (post : Int32 → vSt → Prop) (h : p_X4_draw   S a1 post) : Met l yX4_draw (v_ws yX4_draw cX4_draw 2 (some .int)) (v_rm 0 40) (v_Pc G [.ref (G.1 74), .int a1] S) (v_Qi G post) 0 0 (v_A G) := by
  refine v_start (by decide +kernel) (Nat.le_of_ble_eq_true rfl) (fun X hl C D => ?_)
  subst hl
  have C : v_Cx X G cX4_draw RX4 2 (v_rm 0 40) := C
  show VJ X G S 0 [(0, .ref (G.1 74)), (1, .int a1)] []
  refine V_aload_n C 0 dX4_draw_0 rfl rfl ?_
  refine V_aload_n C 0 dX4_draw_1 rfl rfl ?_
  refine V_gi C 74 (by decide) (by decide) F_4_2 k_RX4_15 dX4_draw_2 ?_
  refine V_sipush (v := 2971) C dX4_draw_5 (by decide) ?_
  refine V_imul C dX4_draw_8 ?_
  refine V_sipush (v := 10739) C dX4_draw_9 (by decide) ?_
  refine V_iadd C dX4_draw_12 ?_
  refine V_ldc (v := 65535) C k_RX4_19 dX4_draw_13 ?_
  refine V_iand C dX4_draw_15 ?_
  refine V_pi C 74 (by decide) (by decide) P_4_2 k_RX4_15 dX4_draw_16 ?_
  refine V_topS (fun S2 eS2 => ?_)
  have h := h S2 eS2
  refine V_iload_n C 1 dX4_draw_19 rfl rfl ?_
  refine V_if_le (tgt := 35) C dX4_draw_20 (by decide) (fun c => ?_) (fun c => ?_)
  · have h := h.1 c
    refine V_iconst (v := 0) C dX4_draw_35 (by decide) ?_
    exact V_iret C D dX4_draw_36 h
  · have h := h.2 c
    refine V_aload_n C 0 dX4_draw_23 rfl rfl ?_
    refine V_gi C 74 (by decide) (by decide) F_4_2 k_RX4_15 dX4_draw_24 ?_
    refine V_bipush (v := 8) C dX4_draw_27 (by decide) ?_
    refine V_idiv C dX4_draw_29 (by decide) ?_
    refine V_iload_n C 1 dX4_draw_30 rfl rfl ?_
    obtain ⟨hz, h⟩ := h
    refine V_irem C dX4_draw_31 hz ?_
    refine V_goto (tgt := 36) C dX4_draw_32 (by decide) ?_
    exact V_iret C D dX4_draw_36 h
/-! HalfAccuser$Life.jury(LHalfAccuser$City;II)I -/
theorem dX4_jury_0 : decode cX4_jury 0 = .ok ((.aload_n 1), 1) := by decide +kernel
theorem dX4_jury_1 : decode cX4_jury 1 = .ok ((.iload_n 2), 1) := by decide +kernel
theorem dX4_jury_2 : decode cX4_jury 2 = .ok ((.iload_n 3), 1) := by decide +kernel
theorem dX4_jury_3 : decode cX4_jury 3 = .ok ((.invokevirtual 20), 3) := by decide +kernel
theorem dX4_jury_6 : decode cX4_jury 6 = .ok ((.istore 4), 2) := by decide +kernel
theorem dX4_jury_8 : decode cX4_jury 8 = .ok ((.iconst 0), 1) := by decide +kernel
theorem dX4_jury_9 : decode cX4_jury 9 = .ok ((.istore 5), 2) := by decide +kernel
theorem dX4_jury_11 : decode cX4_jury 11 = .ok ((.iconst 0), 1) := by decide +kernel
theorem dX4_jury_12 : decode cX4_jury 12 = .ok ((.istore 6), 2) := by decide +kernel
theorem dX4_jury_14 : decode cX4_jury 14 = .ok ((.iload 6), 2) := by decide +kernel
theorem dX4_jury_16 : decode cX4_jury 16 = .ok ((.aload_n 1), 1) := by decide +kernel
theorem dX4_jury_17 : decode cX4_jury 17 = .ok ((.iconst 0), 1) := by decide +kernel
theorem dX4_jury_18 : decode cX4_jury 18 = .ok ((.invokevirtual 26), 3) := by decide +kernel
theorem dX4_jury_21 : decode cX4_jury 21 = .ok ((.if_icmp .ge 23), 3) := by decide +kernel
theorem dX4_jury_24 : decode cX4_jury 24 = .ok ((.aload_n 0), 1) := by decide +kernel
theorem dX4_jury_25 : decode cX4_jury 25 = .ok ((.bipush 16), 2) := by decide +kernel
theorem dX4_jury_27 : decode cX4_jury 27 = .ok ((.invokevirtual 30), 3) := by decide +kernel
theorem dX4_jury_30 : decode cX4_jury 30 = .ok ((.iload 4), 2) := by decide +kernel
theorem dX4_jury_32 : decode cX4_jury 32 = .ok ((.if_icmp .ge 6), 3) := by decide +kernel
theorem dX4_jury_35 : decode cX4_jury 35 = .ok ((.iinc 5 1), 3) := by decide +kernel
theorem dX4_jury_38 : decode cX4_jury 38 = .ok ((.iinc 6 1), 3) := by decide +kernel
theorem dX4_jury_41 : decode cX4_jury 41 = .ok ((.goto (-27)), 3) := by decide +kernel
theorem dX4_jury_44 : decode cX4_jury 44 = .ok ((.iload 5), 2) := by decide +kernel
theorem dX4_jury_46 : decode cX4_jury 46 = .ok (.ireturn, 1) := by decide +kernel
def p_X4_jury_38 (b1 : Nat) (a2 : Int32) (a3 : Int32)  (K14 : vSt → Int32 → Int32 → Int32 → Prop) (post : Int32 → vSt → Prop) (S : vSt) (x4 : Int32) (x5 : Int32) (x6 : Int32) : Prop := ∀ y21 : Int32, y21 = x6 + 1 → K14 S x4 x5 y21
def p_X4_jury_14 (b1 : Nat) (a2 : Int32) (a3 : Int32)   (post : Int32 → vSt → Prop) : Nat → vSt → Int32 → Int32 → Int32 → Prop
  | 0 => fun _ _ _ _ => False
  | fu14 + 1 => fun S x4 x5 x6 => p_X0_ruleOf b1 S 0 (fun r18 S17 => ((r18 ≤ x6 → post x5 S17) ∧ (¬ r18 ≤ x6 → p_X4_draw  S17 16 (fun r20 S19 => ((x4 ≤ r20 → p_X4_jury_38 b1 a2 a3 (p_X4_jury_14 b1 a2 a3 post fu14) post S19 x4 x5 x6) ∧ (¬ x4 ≤ r20 → ∀ y21 : Int32, y21 = x5 + 1 → p_X4_jury_38 b1 a2 a3 (p_X4_jury_14 b1 a2 a3 post fu14) post S19 x4 y21 x6))))))
theorem e_X4_jury_14 (b1 : Nat) (a2 : Int32) (a3 : Int32)   (post : Int32 → vSt → Prop) (fu14 : Nat) (S : vSt) (x4 : Int32) (x5 : Int32) (x6 : Int32) : p_X4_jury_14 b1 a2 a3 post (fu14 + 1) S x4 x5 x6 = (p_X0_ruleOf b1 S 0 (fun r18 S17 => ((r18 ≤ x6 → post x5 S17) ∧ (¬ r18 ≤ x6 → p_X4_draw  S17 16 (fun r20 S19 => ((x4 ≤ r20 → p_X4_jury_38 b1 a2 a3 (p_X4_jury_14 b1 a2 a3 post fu14) post S19 x4 x5 x6) ∧ (¬ x4 ≤ r20 → ∀ y21 : Int32, y21 = x5 + 1 → p_X4_jury_38 b1 a2 a3 (p_X4_jury_14 b1 a2 a3 post fu14) post S19 x4 y21 x6))))))) := rfl
def p_X4_jury (b1 : Nat)  (S : vSt) (a2 : Int32) (a3 : Int32) (post : Int32 → vSt → Prop) : Prop := p_X0_chanceOf b1 S a2 a3 (fun r16 S15 => ∃ fu14, p_X4_jury_14 b1 a2 a3 post fu14 S15 r16 0 0)
set_option maxHeartbeats 4000000 in
set_option maxRecDepth 100000 in
theorem q_X4_jury_38 {X : vX} {G : vG}  {post : Int32 → vSt → Prop} (C : v_Cx X G cX4_jury RX4 7 (v_rm 3 103)) (D : v_Rx X G (v_Qi G post) (some .int)) {b1 : Nat} (hb1 : v_isC b1) {a2 : Int32} {a3 : Int32}  {K14 : vSt → Int32 → Int32 → Int32 → Prop} (hK14 : ∀ S x4 x5 x6, K14 S x4 x5 x6 → VJ X G S 14 [(0, .ref (G.1 74)), (1, .ref (G.1 b1)), (4, .int x4), (5, .int x5), (6, .int x6)] []) : ∀ (S : vSt) (x4 : Int32) (x5 : Int32) (x6 : Int32), p_X4_jury_38 b1 a2 a3 K14 post S x4 x5 x6 → VJ X G S 38 [(0, .ref (G.1 74)), (1, .ref (G.1 b1)), (4, .int x4), (5, .int x5), (6, .int x6)] [] := by
  intro S x4 x5 x6 h
  obtain ⟨y21, ey21⟩ : ∃ z : Int32, z = x6 + 1 := ⟨_, rfl⟩
  have h := h y21 ey21
  refine V_iinc (lv' := [(0, .ref (G.1 74)), (1, .ref (G.1 b1)), (4, .int x4), (5, .int x5), (6, .int y21)]) C 4 [1, 2, 3, 4, 0] y21 dX4_jury_38 rfl (by rw [ey21]; rfl) (by decide) rfl ?_
  refine V_goto (tgt := 14) C dX4_jury_41 (by decide) ?_
  exact hK14 _ _ _ _ h
set_option maxHeartbeats 4000000 in
set_option maxRecDepth 100000 in
theorem q_X4_jury_14 {X : vX} {G : vG}  {post : Int32 → vSt → Prop} (C : v_Cx X G cX4_jury RX4 7 (v_rm 3 103)) (D : v_Rx X G (v_Qi G post) (some .int)) {b1 : Nat} (hb1 : v_isC b1) {a2 : Int32} {a3 : Int32}   : ∀ (fu : Nat) (S : vSt) (x4 : Int32) (x5 : Int32) (x6 : Int32), p_X4_jury_14 b1 a2 a3 post fu S x4 x5 x6 → VJ X G S 14 [(0, .ref (G.1 74)), (1, .ref (G.1 b1)), (4, .int x4), (5, .int x5), (6, .int x6)] [] := by
  intro fu
  induction fu with
  | zero => intro S x4 x5 x6 h; exact absurd h id
  | succ fu ih =>
    intro S x4 x5 x6 h
    have hK14 := ih
    rw [e_X4_jury_14] at h
    refine V_iload C 4 dX4_jury_14 rfl ?_
    refine V_aload_n C 1 dX4_jury_16 rfl rfl ?_
    refine V_iconst (v := 0) C dX4_jury_17 (by decide) ?_
    refine V_callVi (As := [.int 0]) (rest := [.int x6]) C (c_X0_ruleOf (v_l X) G hb1 _ _ h) b1 0 (v_cb hb1 0 (by decide)) (v_co0 hb1) (by decide) rfl KV_X0_ruleOf k_RX4_26 rfl rfl rfl (Nat.le_of_ble_eq_true rfl) ⟨Nat.le_of_ble_eq_true rfl, Nat.le_of_ble_eq_true rfl⟩ dX4_jury_18 (fun r18 S17 h => ?_)
    refine V_icmp_ge (tgt := 44) C dX4_jury_21 (by decide) (fun c => ?_) (fun c => ?_)
    · have h := h.1 c
      refine V_iload C 3 dX4_jury_44 rfl ?_
      exact V_iret C D dX4_jury_46 h
    · have h := h.2 c
      refine V_aload_n C 0 dX4_jury_24 rfl rfl ?_
      refine V_bipush (v := 16) C dX4_jury_25 (by decide) ?_
      refine V_callVi (As := [.int 16]) (rest := []) C (c_X4_draw (v_l X) G  _ _ h) 74 4 (by decide) (by decide) (by decide) rfl KV_X4_draw k_RX4_30 rfl rfl rfl (Nat.le_of_ble_eq_true rfl) ⟨Nat.le_of_ble_eq_true rfl, Nat.le_of_ble_eq_true rfl⟩ dX4_jury_27 (fun r20 S19 h => ?_)
      refine V_iload C 2 dX4_jury_30 rfl ?_
      refine V_icmp_ge (tgt := 38) C dX4_jury_32 (by decide) (fun c => ?_) (fun c => ?_)
      · have h := h.1 c
        exact q_X4_jury_38 C D hb1 hK14 _ _ _ _ h
      · have h := h.2 c
        obtain ⟨y21, ey21⟩ : ∃ z : Int32, z = x5 + 1 := ⟨_, rfl⟩
        have h := h y21 ey21
        refine V_iinc (lv' := [(0, .ref (G.1 74)), (1, .ref (G.1 b1)), (4, .int x4), (5, .int y21), (6, .int x6)]) C 3 [1, 2, 3, 0, 4] y21 dX4_jury_35 rfl (by rw [ey21]; rfl) (by decide) rfl ?_
        exact q_X4_jury_38 C D hb1 hK14 _ _ _ _ h
set_option maxHeartbeats 4000000 in
set_option maxRecDepth 100000 in
theorem c_X4_jury (l : Launch) (G : vG)  {b1 : Nat} (hb1 : v_isC b1)  {S : vSt} (a2 : Int32) (a3 : Int32) (post : Int32 → vSt → Prop) (h : p_X4_jury b1  S a2 a3 post) : Met l yX4_jury (v_ws yX4_jury cX4_jury 7 (some .int)) (v_rm 3 103) (v_Pc G [.ref (G.1 74), .ref (G.1 b1), .int a2, .int a3] S) (v_Qi G post) 0 0 (v_A G) := by
  refine v_start (by decide +kernel) (Nat.le_of_ble_eq_true rfl) (fun X hl C D => ?_)
  subst hl
  have C : v_Cx X G cX4_jury RX4 7 (v_rm 3 103) := C
  show VJ X G S 0 [(0, .ref (G.1 74)), (1, .ref (G.1 b1)), (2, .int a2), (3, .int a3)] []
  refine V_aload_n C 1 dX4_jury_0 rfl rfl ?_
  refine V_iload_n C 2 dX4_jury_1 rfl rfl ?_
  refine V_iload_n C 3 dX4_jury_2 rfl rfl ?_
  refine V_callVi (As := [.int a2, .int a3]) (rest := []) C (c_X0_chanceOf (v_l X) G hb1 _ _ _ h) b1 0 (v_cb hb1 0 (by decide)) (v_co0 hb1) (by decide) rfl KV_X0_chanceOf k_RX4_20 rfl rfl rfl (Nat.le_of_ble_eq_true rfl) ⟨Nat.le_of_ble_eq_true rfl, Nat.le_of_ble_eq_true rfl⟩ dX4_jury_3 (fun r16 S15 h => ?_)
  refine V_istore (lv' := [(0, .ref (G.1 74)), (1, .ref (G.1 b1)), (2, .int a2), (3, .int a3), (4, .int r16)]) C [1, 2, 3, 4, 0] dX4_jury_6 (by decide) rfl ?_
  refine V_iconst (v := 0) C dX4_jury_8 (by decide) ?_
  refine V_istore (lv' := [(0, .ref (G.1 74)), (1, .ref (G.1 b1)), (2, .int a2), (3, .int a3), (4, .int r16), (5, .int 0)]) C [1, 2, 3, 4, 5, 0] dX4_jury_9 (by decide) rfl ?_
  refine V_iconst (v := 0) C dX4_jury_11 (by decide) ?_
  refine V_istore (lv' := [(0, .ref (G.1 74)), (1, .ref (G.1 b1)), (2, .int a2), (3, .int a3), (4, .int r16), (5, .int 0), (6, .int 0)]) C [1, 2, 3, 4, 5, 6, 0] dX4_jury_12 (by decide) rfl ?_
  refine V_loc (lv' := [(0, .ref (G.1 74)), (1, .ref (G.1 b1)), (4, .int r16), (5, .int 0), (6, .int 0)]) [0, 1, 4, 5, 6] rfl ?_
  obtain ⟨fu14, h⟩ := h
  exact q_X4_jury_14 C D hb1 fu14 _ _ _ _ h
/-! HalfAccuser$Past.gather(I)V -/
theorem dX5_gather_0 : decode cX5_gather 0 = .ok ((.aload_n 0), 1) := by decide +kernel
theorem dX5_gather_1 : decode cX5_gather 1 = .ok ((.iconst 0), 1) := by decide +kernel
theorem dX5_gather_2 : decode cX5_gather 2 = .ok ((.putfield 19), 3) := by decide +kernel
theorem dX5_gather_5 : decode cX5_gather 5 = .ok ((.iconst 0), 1) := by decide +kernel
theorem dX5_gather_6 : decode cX5_gather 6 = .ok ((.istore_n 2), 1) := by decide +kernel
theorem dX5_gather_7 : decode cX5_gather 7 = .ok ((.iload_n 2), 1) := by decide +kernel
theorem dX5_gather_8 : decode cX5_gather 8 = .ok ((.aload_n 0), 1) := by decide +kernel
theorem dX5_gather_9 : decode cX5_gather 9 = .ok ((.getfield 15), 3) := by decide +kernel
theorem dX5_gather_12 : decode cX5_gather 12 = .ok ((.getfield 23), 3) := by decide +kernel
theorem dX5_gather_15 : decode cX5_gather 15 = .ok ((.if_icmp .ge 43), 3) := by decide +kernel
theorem dX5_gather_18 : decode cX5_gather 18 = .ok ((.aload_n 0), 1) := by decide +kernel
theorem dX5_gather_19 : decode cX5_gather 19 = .ok ((.getfield 15), 3) := by decide +kernel
theorem dX5_gather_22 : decode cX5_gather 22 = .ok ((.iload_n 1), 1) := by decide +kernel
theorem dX5_gather_23 : decode cX5_gather 23 = .ok ((.iload_n 2), 1) := by decide +kernel
theorem dX5_gather_24 : decode cX5_gather 24 = .ok ((.invokevirtual 28), 3) := by decide +kernel
theorem dX5_gather_27 : decode cX5_gather 27 = .ok ((.ifCond .ne 25), 3) := by decide +kernel
theorem dX5_gather_30 : decode cX5_gather 30 = .ok ((.aload_n 0), 1) := by decide +kernel
theorem dX5_gather_31 : decode cX5_gather 31 = .ok ((.getfield 9), 3) := by decide +kernel
theorem dX5_gather_34 : decode cX5_gather 34 = .ok ((.aload_n 0), 1) := by decide +kernel
theorem dX5_gather_35 : decode cX5_gather 35 = .ok ((.getfield 19), 3) := by decide +kernel
theorem dX5_gather_38 : decode cX5_gather 38 = .ok ((.iload_n 2), 1) := by decide +kernel
theorem dX5_gather_39 : decode cX5_gather 39 = .ok ((.invokestatic 32), 3) := by decide +kernel
theorem dX5_gather_42 : decode cX5_gather 42 = .ok ((.aload_n 0), 1) := by decide +kernel
theorem dX5_gather_43 : decode cX5_gather 43 = .ok (.dup, 1) := by decide +kernel
theorem dX5_gather_44 : decode cX5_gather 44 = .ok ((.getfield 19), 3) := by decide +kernel
theorem dX5_gather_47 : decode cX5_gather 47 = .ok ((.iconst 1), 1) := by decide +kernel
theorem dX5_gather_48 : decode cX5_gather 48 = .ok (.iadd, 1) := by decide +kernel
theorem dX5_gather_49 : decode cX5_gather 49 = .ok ((.putfield 19), 3) := by decide +kernel
theorem dX5_gather_52 : decode cX5_gather 52 = .ok ((.iinc 2 1), 3) := by decide +kernel
theorem dX5_gather_55 : decode cX5_gather 55 = .ok ((.goto (-48)), 3) := by decide +kernel
theorem dX5_gather_58 : decode cX5_gather 58 = .ok (.return_, 1) := by decide +kernel
def p_X5_gather_52  (a1 : Int32)  (K7 : vSt → Int32 → Prop) (post : vSt → Prop) (S : vSt) (x2 : Int32) : Prop := ∀ y15 : Int32, y15 = x2 + 1 → K7 S y15
def p_X5_gather_7  (a1 : Int32)   (post : vSt → Prop) : Nat → vSt → Int32 → Prop
  | 0 => fun _ _ => False
  | fu7 + 1 => fun S x2 => (((S.1 10 16) ≤ x2 → post S) ∧ (¬ (S.1 10 16) ≤ x2 → p_X0_isOwn 10 S a1 x2 (fun r14 S13 => ((r14 = true → p_X5_gather_52 a1 (p_X5_gather_7 a1 post fu7) post S13 x2) ∧ (r14 = false → p_X10_put 73 10 S13 (S13.1 72 2) x2 (fun S15 => ∀ S16, S16 = v_si S15 72 2 ((S15.1 72 2) + 1) → p_X5_gather_52 a1 (p_X5_gather_7 a1 post fu7) post S16 x2))))))
theorem e_X5_gather_7  (a1 : Int32)   (post : vSt → Prop) (fu7 : Nat) (S : vSt) (x2 : Int32) : p_X5_gather_7 a1 post (fu7 + 1) S x2 = ((((S.1 10 16) ≤ x2 → post S) ∧ (¬ (S.1 10 16) ≤ x2 → p_X0_isOwn 10 S a1 x2 (fun r14 S13 => ((r14 = true → p_X5_gather_52 a1 (p_X5_gather_7 a1 post fu7) post S13 x2) ∧ (r14 = false → p_X10_put 73 10 S13 (S13.1 72 2) x2 (fun S15 => ∀ S16, S16 = v_si S15 72 2 ((S15.1 72 2) + 1) → p_X5_gather_52 a1 (p_X5_gather_7 a1 post fu7) post S16 x2))))))) := rfl
def p_X5_gather   (S : vSt) (a1 : Int32) (post : vSt → Prop) : Prop := ∀ S12, S12 = v_si S 72 2 0 → ∃ fu7, p_X5_gather_7 a1 post fu7 S12 0
set_option maxHeartbeats 4000000 in
set_option maxRecDepth 100000 in
theorem q_X5_gather_52 {X : vX} {G : vG}  {post : vSt → Prop} (C : v_Cx X G cX5_gather RX5 3 (v_rm 2 83)) (D : v_Rx X G (v_Qv G post) none)  {a1 : Int32}  {K7 : vSt → Int32 → Prop} (hK7 : ∀ S x2, K7 S x2 → VJ X G S 7 [(0, .ref (G.1 72)), (1, .int a1), (2, .int x2)] []) : ∀ (S : vSt) (x2 : Int32), p_X5_gather_52 a1 K7 post S x2 → VJ X G S 52 [(0, .ref (G.1 72)), (1, .int a1), (2, .int x2)] [] := by
  intro S x2 h
  obtain ⟨y15, ey15⟩ : ∃ z : Int32, z = x2 + 1 := ⟨_, rfl⟩
  have h := h y15 ey15
  refine V_iinc (lv' := [(0, .ref (G.1 72)), (1, .int a1), (2, .int y15)]) C 2 [1, 2, 0] y15 dX5_gather_52 rfl (by rw [ey15]; rfl) (by decide) rfl ?_
  refine V_goto (tgt := 7) C dX5_gather_55 (by decide) ?_
  exact hK7 _ _ h
set_option maxHeartbeats 4000000 in
set_option maxRecDepth 100000 in
theorem q_X5_gather_7 {X : vX} {G : vG}  {post : vSt → Prop} (C : v_Cx X G cX5_gather RX5 3 (v_rm 2 83)) (D : v_Rx X G (v_Qv G post) none)  {a1 : Int32}   : ∀ (fu : Nat) (S : vSt) (x2 : Int32), p_X5_gather_7 a1 post fu S x2 → VJ X G S 7 [(0, .ref (G.1 72)), (1, .int a1), (2, .int x2)] [] := by
  intro fu
  induction fu with
  | zero => intro S x2 h; exact absurd h id
  | succ fu ih =>
    intro S x2 h
    have hK7 := ih
    rw [e_X5_gather_7] at h
    refine V_iload_n C 2 dX5_gather_7 rfl rfl ?_
    refine V_aload_n C 0 dX5_gather_8 rfl rfl ?_
    refine V_ga C 72 (by decide) (by decide) F_5_0 k_RX5_15 dX5_gather_9 ?_
    refine V_gi C 10 (by decide) (by decide) F_0_16 k_RX5_23 dX5_gather_12 ?_
    refine V_icmp_ge (tgt := 58) C dX5_gather_15 (by decide) (fun c => ?_) (fun c => ?_)
    · have h := h.1 c
      exact V_vret C D dX5_gather_58 h
    · have h := h.2 c
      refine V_aload_n C 0 dX5_gather_18 rfl rfl ?_
      refine V_ga C 72 (by decide) (by decide) F_5_0 k_RX5_15 dX5_gather_19 ?_
      refine V_iload_n C 1 dX5_gather_22 rfl rfl ?_
      refine V_iload_n C 2 dX5_gather_23 rfl rfl ?_
      refine V_callVz (As := [.int a1, .int x2]) (rest := []) C (c_X0_isOwn (v_l X) G v_i10 _ _ _ h) 10 0 (by decide) (by decide) (by decide) rfl KV_X0_isOwn k_RX5_28 rfl rfl rfl (Nat.le_of_ble_eq_true rfl) ⟨Nat.le_of_ble_eq_true rfl, Nat.le_of_ble_eq_true rfl⟩ dX5_gather_24 (fun r14 S13 h => ?_)
      refine V_ifb_ne (tgt := 52) C dX5_gather_27 (by decide) (fun c => ?_) (fun c => ?_)
      · have h := h.1 c
        exact q_X5_gather_52 C D hK7 _ _ h
      · have h := h.2 c
        refine V_aload_n C 0 dX5_gather_30 rfl rfl ?_
        refine V_ga C 72 (by decide) (by decide) F_5_1 k_RX5_9 dX5_gather_31 ?_
        refine V_aload_n C 0 dX5_gather_34 rfl rfl ?_
        refine V_gi C 72 (by decide) (by decide) F_5_2 k_RX5_19 dX5_gather_35 ?_
        refine V_iload_n C 2 dX5_gather_38 rfl rfl ?_
        refine V_callSNv (As := [.ref (G.1 73), .int (S13.1 72 2), .int x2]) (rest := []) C (c_X10_put (v_l X) G (by decide) (by decide) _ _ _ h) KV_X10_put (List.mem_of_getElem? (i := 19) rfl) rfl rfl rfl (Nat.le_of_ble_eq_true rfl) ⟨Nat.le_of_ble_eq_true rfl, Nat.le_of_ble_eq_true rfl⟩ dX5_gather_39 (fun S15 h => ?_)
        refine V_aload_n C 0 dX5_gather_42 rfl rfl ?_
        refine V_dup C dX5_gather_43 rfl ?_
        refine V_gi C 72 (by decide) (by decide) F_5_2 k_RX5_19 dX5_gather_44 ?_
        refine V_iconst (v := 1) C dX5_gather_47 (by decide) ?_
        refine V_iadd C dX5_gather_48 ?_
        refine V_pi C 72 (by decide) (by decide) P_5_2 k_RX5_19 dX5_gather_49 ?_
        refine V_topS (fun S16 eS16 => ?_)
        have h := h S16 eS16
        exact q_X5_gather_52 C D hK7 _ _ h
set_option maxHeartbeats 4000000 in
set_option maxRecDepth 100000 in
theorem c_X5_gather (l : Launch) (G : vG)    {S : vSt} (a1 : Int32) (post : vSt → Prop) (h : p_X5_gather   S a1 post) : Met l yX5_gather (v_ws yX5_gather cX5_gather 3 none) (v_rm 2 83) (v_Pc G [.ref (G.1 72), .int a1] S) (v_Qv G post) 0 0 (v_A G) := by
  refine v_start (by decide +kernel) (Nat.le_of_ble_eq_true rfl) (fun X hl C D => ?_)
  subst hl
  have C : v_Cx X G cX5_gather RX5 3 (v_rm 2 83) := C
  show VJ X G S 0 [(0, .ref (G.1 72)), (1, .int a1)] []
  refine V_aload_n C 0 dX5_gather_0 rfl rfl ?_
  refine V_iconst (v := 0) C dX5_gather_1 (by decide) ?_
  refine V_pi C 72 (by decide) (by decide) P_5_2 k_RX5_19 dX5_gather_2 ?_
  refine V_topS (fun S12 eS12 => ?_)
  have h := h S12 eS12
  refine V_iconst (v := 0) C dX5_gather_5 (by decide) ?_
  refine V_istore_n (lv' := [(0, .ref (G.1 72)), (1, .int a1), (2, .int 0)]) C [1, 2, 0] dX5_gather_6 rfl (by decide) rfl ?_
  obtain ⟨fu7, h⟩ := h
  exact q_X5_gather_7 C D  fu7 _ _ h
/-! HalfAccuser$Past.prize(I)I -/
theorem dX5_prize_0 : decode cX5_prize 0 = .ok ((.aload_n 0), 1) := by decide +kernel
theorem dX5_prize_1 : decode cX5_prize 1 = .ok ((.getfield 15), 3) := by decide +kernel
theorem dX5_prize_4 : decode cX5_prize 4 = .ok ((.getfield 36), 3) := by decide +kernel
theorem dX5_prize_7 : decode cX5_prize 7 = .ok ((.aload_n 0), 1) := by decide +kernel
theorem dX5_prize_8 : decode cX5_prize 8 = .ok ((.getfield 9), 3) := by decide +kernel
theorem dX5_prize_11 : decode cX5_prize 11 = .ok ((.iload_n 1), 1) := by decide +kernel
theorem dX5_prize_12 : decode cX5_prize 12 = .ok ((.invokestatic 39), 3) := by decide +kernel
theorem dX5_prize_15 : decode cX5_prize 15 = .ok ((.invokestatic 39), 3) := by decide +kernel
theorem dX5_prize_18 : decode cX5_prize 18 = .ok ((.aload_n 0), 1) := by decide +kernel
theorem dX5_prize_19 : decode cX5_prize 19 = .ok ((.getfield 15), 3) := by decide +kernel
theorem dX5_prize_22 : decode cX5_prize 22 = .ok ((.iconst 3), 1) := by decide +kernel
theorem dX5_prize_23 : decode cX5_prize 23 = .ok ((.invokevirtual 43), 3) := by decide +kernel
theorem dX5_prize_26 : decode cX5_prize 26 = .ok ((.invokestatic 47), 3) := by decide +kernel
theorem dX5_prize_29 : decode cX5_prize 29 = .ok (.ireturn, 1) := by decide +kernel
def p_X5_prize   (S : vSt) (a1 : Int32) (post : Int32 → vSt → Prop) : Prop := p_X10_at 73 10 S a1 (fun r10 S9 => p_X10_at 20 10 S9 r10 (fun r12 S11 => p_X0_ruleOf 10 S11 3 (fun r14 S13 => p_X0_partOf  S13 r12 r14 (fun r16 S15 => post r16 S15))))
set_option maxHeartbeats 4000000 in
set_option maxRecDepth 100000 in
theorem c_X5_prize (l : Launch) (G : vG)    {S : vSt} (a1 : Int32) (post : Int32 → vSt → Prop) (h : p_X5_prize   S a1 post) : Met l yX5_prize (v_ws yX5_prize cX5_prize 2 (some .int)) (v_rm 2 82) (v_Pc G [.ref (G.1 72), .int a1] S) (v_Qi G post) 0 0 (v_A G) := by
  refine v_start (by decide +kernel) (Nat.le_of_ble_eq_true rfl) (fun X hl C D => ?_)
  subst hl
  have C : v_Cx X G cX5_prize RX5 2 (v_rm 2 82) := C
  show VJ X G S 0 [(0, .ref (G.1 72)), (1, .int a1)] []
  refine V_aload_n C 0 dX5_prize_0 rfl rfl ?_
  refine V_ga C 72 (by decide) (by decide) F_5_0 k_RX5_15 dX5_prize_1 ?_
  refine V_gr C 10 (by decide) (by decide) F_0_9 k_RX5_36 dX5_prize_4 ?_
  refine V_aload_n C 0 dX5_prize_7 rfl rfl ?_
  refine V_ga C 72 (by decide) (by decide) F_5_1 k_RX5_9 dX5_prize_8 ?_
  refine V_iload_n C 1 dX5_prize_11 rfl rfl ?_
  refine V_callSNi (As := [.ref (G.1 73), .int a1]) (rest := [.ref (G.1 20)]) C (c_X10_at (v_l X) G (by decide) (by decide) _ _ h) KV_X10_at (List.mem_of_getElem? (i := 21) rfl) rfl rfl rfl (Nat.le_of_ble_eq_true rfl) ⟨Nat.le_of_ble_eq_true rfl, Nat.le_of_ble_eq_true rfl⟩ dX5_prize_12 (fun r10 S9 h => ?_)
  refine V_callSNi (As := [.ref (G.1 20), .int r10]) (rest := []) C (c_X10_at (v_l X) G (by decide) (by decide) _ _ h) KV_X10_at (List.mem_of_getElem? (i := 21) rfl) rfl rfl rfl (Nat.le_of_ble_eq_true rfl) ⟨Nat.le_of_ble_eq_true rfl, Nat.le_of_ble_eq_true rfl⟩ dX5_prize_15 (fun r12 S11 h => ?_)
  refine V_aload_n C 0 dX5_prize_18 rfl rfl ?_
  refine V_ga C 72 (by decide) (by decide) F_5_0 k_RX5_15 dX5_prize_19 ?_
  refine V_iconst (v := 3) C dX5_prize_22 (by decide) ?_
  refine V_callVi (As := [.int 3]) (rest := [.int r12]) C (c_X0_ruleOf (v_l X) G v_i10 _ _ h) 10 0 (by decide) (by decide) (by decide) rfl KV_X0_ruleOf k_RX5_43 rfl rfl rfl (Nat.le_of_ble_eq_true rfl) ⟨Nat.le_of_ble_eq_true rfl, Nat.le_of_ble_eq_true rfl⟩ dX5_prize_23 (fun r14 S13 h => ?_)
  refine V_callSi (As := [.int r12, .int r14]) (rest := []) C (c_X0_partOf (v_l X) G  _ _ _ h) KV_X0_partOf k_RX5_47 rfl rfl rfl (Nat.le_of_ble_eq_true rfl) ⟨Nat.le_of_ble_eq_true rfl, Nat.le_of_ble_eq_true rfl⟩ dX5_prize_26 (fun r16 S15 h => ?_)
  exact V_iret C D dX5_prize_29 h
/-! HalfAccuser$Past.most(I)I -/
theorem dX5_most_0 : decode cX5_most 0 = .ok ((.aload_n 0), 1) := by decide +kernel
theorem dX5_most_1 : decode cX5_most 1 = .ok ((.iload_n 1), 1) := by decide +kernel
theorem dX5_most_2 : decode cX5_most 2 = .ok ((.invokevirtual 51), 3) := by decide +kernel
theorem dX5_most_5 : decode cX5_most 5 = .ok ((.iconst 0), 1) := by decide +kernel
theorem dX5_most_6 : decode cX5_most 6 = .ok ((.istore_n 2), 1) := by decide +kernel
theorem dX5_most_7 : decode cX5_most 7 = .ok ((.iconst 0), 1) := by decide +kernel
theorem dX5_most_8 : decode cX5_most 8 = .ok ((.istore_n 3), 1) := by decide +kernel
theorem dX5_most_9 : decode cX5_most 9 = .ok ((.iload_n 3), 1) := by decide +kernel
theorem dX5_most_10 : decode cX5_most 10 = .ok ((.aload_n 0), 1) := by decide +kernel
theorem dX5_most_11 : decode cX5_most 11 = .ok ((.getfield 19), 3) := by decide +kernel
theorem dX5_most_14 : decode cX5_most 14 = .ok ((.if_icmp .ge 17), 3) := by decide +kernel
theorem dX5_most_17 : decode cX5_most 17 = .ok ((.iload_n 2), 1) := by decide +kernel
theorem dX5_most_18 : decode cX5_most 18 = .ok ((.aload_n 0), 1) := by decide +kernel
theorem dX5_most_19 : decode cX5_most 19 = .ok ((.iload_n 3), 1) := by decide +kernel
theorem dX5_most_20 : decode cX5_most 20 = .ok ((.invokevirtual 55), 3) := by decide +kernel
theorem dX5_most_23 : decode cX5_most 23 = .ok (.iadd, 1) := by decide +kernel
theorem dX5_most_24 : decode cX5_most 24 = .ok ((.istore_n 2), 1) := by decide +kernel
theorem dX5_most_25 : decode cX5_most 25 = .ok ((.iinc 3 1), 3) := by decide +kernel
theorem dX5_most_28 : decode cX5_most 28 = .ok ((.goto (-19)), 3) := by decide +kernel
theorem dX5_most_31 : decode cX5_most 31 = .ok ((.iload_n 2), 1) := by decide +kernel
theorem dX5_most_32 : decode cX5_most 32 = .ok (.ireturn, 1) := by decide +kernel
def p_X5_most_9  (a1 : Int32)   (post : Int32 → vSt → Prop) : Nat → vSt → Int32 → Int32 → Prop
  | 0 => fun _ _ _ => False
  | fu9 + 1 => fun S x2 x3 => (((S.1 72 2) ≤ x3 → post x2 S) ∧ (¬ (S.1 72 2) ≤ x3 → p_X5_prize  S x3 (fun r12 S11 => ∀ y13 : Int32, y13 = (x2 + r12) → ∀ y14 : Int32, y14 = x3 + 1 → (p_X5_most_9 a1 post fu9) S11 y13 y14)))
theorem e_X5_most_9  (a1 : Int32)   (post : Int32 → vSt → Prop) (fu9 : Nat) (S : vSt) (x2 : Int32) (x3 : Int32) : p_X5_most_9 a1 post (fu9 + 1) S x2 x3 = ((((S.1 72 2) ≤ x3 → post x2 S) ∧ (¬ (S.1 72 2) ≤ x3 → p_X5_prize  S x3 (fun r12 S11 => ∀ y13 : Int32, y13 = (x2 + r12) → ∀ y14 : Int32, y14 = x3 + 1 → (p_X5_most_9 a1 post fu9) S11 y13 y14)))) := rfl
def p_X5_most   (S : vSt) (a1 : Int32) (post : Int32 → vSt → Prop) : Prop := p_X5_gather  S a1 (fun S10 => ∃ fu9, p_X5_most_9 a1 post fu9 S10 0 0)
set_option maxHeartbeats 4000000 in
set_option maxRecDepth 100000 in
theorem q_X5_most_9 {X : vX} {G : vG}  {post : Int32 → vSt → Prop} (C : v_Cx X G cX5_most RX5 4 (v_rm 3 105)) (D : v_Rx X G (v_Qi G post) (some .int))  {a1 : Int32}   : ∀ (fu : Nat) (S : vSt) (x2 : Int32) (x3 : Int32), p_X5_most_9 a1 post fu S x2 x3 → VJ X G S 9 [(0, .ref (G.1 72)), (2, .int x2), (3, .int x3)] [] := by
  intro fu
  induction fu with
  | zero => intro S x2 x3 h; exact absurd h id
  | succ fu ih =>
    intro S x2 x3 h
    have hK9 := ih
    rw [e_X5_most_9] at h
    refine V_iload_n C 2 dX5_most_9 rfl rfl ?_
    refine V_aload_n C 0 dX5_most_10 rfl rfl ?_
    refine V_gi C 72 (by decide) (by decide) F_5_2 k_RX5_19 dX5_most_11 ?_
    refine V_icmp_ge (tgt := 31) C dX5_most_14 (by decide) (fun c => ?_) (fun c => ?_)
    · have h := h.1 c
      refine V_iload_n C 1 dX5_most_31 rfl rfl ?_
      exact V_iret C D dX5_most_32 h
    · have h := h.2 c
      refine V_iload_n C 1 dX5_most_17 rfl rfl ?_
      refine V_aload_n C 0 dX5_most_18 rfl rfl ?_
      refine V_iload_n C 2 dX5_most_19 rfl rfl ?_
      refine V_callVi (As := [.int x3]) (rest := [.int x2]) C (c_X5_prize (v_l X) G  _ _ h) 72 5 (by decide) (by decide) (by decide) rfl KV_X5_prize k_RX5_55 rfl rfl rfl (Nat.le_of_ble_eq_true rfl) ⟨Nat.le_of_ble_eq_true rfl, Nat.le_of_ble_eq_true rfl⟩ dX5_most_20 (fun r12 S11 h => ?_)
      refine V_iadd C dX5_most_23 ?_
      refine V_topi (fun y13 ey13 => ?_)
      have h := h y13 ey13
      refine V_istore_n (lv' := [(0, .ref (G.1 72)), (2, .int y13), (3, .int x3)]) C [1, 0, 2] dX5_most_24 rfl (by decide) rfl ?_
      obtain ⟨y14, ey14⟩ : ∃ z : Int32, z = x3 + 1 := ⟨_, rfl⟩
      have h := h y14 ey14
      refine V_iinc (lv' := [(0, .ref (G.1 72)), (2, .int y13), (3, .int y14)]) C 2 [1, 2, 0] y14 dX5_most_25 rfl (by rw [ey14]; rfl) (by decide) rfl ?_
      refine V_goto (tgt := 9) C dX5_most_28 (by decide) ?_
      exact hK9 _ _ _ h
set_option maxHeartbeats 4000000 in
set_option maxRecDepth 100000 in
theorem c_X5_most (l : Launch) (G : vG)    {S : vSt} (a1 : Int32) (post : Int32 → vSt → Prop) (h : p_X5_most   S a1 post) : Met l yX5_most (v_ws yX5_most cX5_most 4 (some .int)) (v_rm 3 105) (v_Pc G [.ref (G.1 72), .int a1] S) (v_Qi G post) 0 0 (v_A G) := by
  refine v_start (by decide +kernel) (Nat.le_of_ble_eq_true rfl) (fun X hl C D => ?_)
  subst hl
  have C : v_Cx X G cX5_most RX5 4 (v_rm 3 105) := C
  show VJ X G S 0 [(0, .ref (G.1 72)), (1, .int a1)] []
  refine V_aload_n C 0 dX5_most_0 rfl rfl ?_
  refine V_iload_n C 1 dX5_most_1 rfl rfl ?_
  refine V_callVv (As := [.int a1]) (rest := []) C (c_X5_gather (v_l X) G  _ _ h) 72 5 (by decide) (by decide) (by decide) rfl KV_X5_gather k_RX5_51 rfl rfl rfl (Nat.le_of_ble_eq_true rfl) ⟨Nat.le_of_ble_eq_true rfl, Nat.le_of_ble_eq_true rfl⟩ dX5_most_2 (fun S10 h => ?_)
  refine V_iconst (v := 0) C dX5_most_5 (by decide) ?_
  refine V_istore_n (lv' := [(0, .ref (G.1 72)), (1, .int a1), (2, .int 0)]) C [1, 2, 0] dX5_most_6 rfl (by decide) rfl ?_
  refine V_iconst (v := 0) C dX5_most_7 (by decide) ?_
  refine V_istore_n (lv' := [(0, .ref (G.1 72)), (1, .int a1), (2, .int 0), (3, .int 0)]) C [1, 2, 3, 0] dX5_most_8 rfl (by decide) rfl ?_
  refine V_loc (lv' := [(0, .ref (G.1 72)), (2, .int 0), (3, .int 0)]) [0, 2, 3] rfl ?_
  obtain ⟨fu9, h⟩ := h
  exact q_X5_most_9 C D  fu9 _ _ _ h
/-! HalfAccuser$Past.least(I)I -/
theorem dX5_least_0 : decode cX5_least 0 = .ok ((.aload_n 0), 1) := by decide +kernel
theorem dX5_least_1 : decode cX5_least 1 = .ok ((.iload_n 1), 1) := by decide +kernel
theorem dX5_least_2 : decode cX5_least 2 = .ok ((.invokevirtual 51), 3) := by decide +kernel
theorem dX5_least_5 : decode cX5_least 5 = .ok ((.aload_n 0), 1) := by decide +kernel
theorem dX5_least_6 : decode cX5_least 6 = .ok ((.getfield 19), 3) := by decide +kernel
theorem dX5_least_9 : decode cX5_least 9 = .ok (.ineg, 1) := by decide +kernel
theorem dX5_least_10 : decode cX5_least 10 = .ok ((.aload_n 0), 1) := by decide +kernel
theorem dX5_least_11 : decode cX5_least 11 = .ok ((.getfield 15), 3) := by decide +kernel
theorem dX5_least_14 : decode cX5_least 14 = .ok ((.iconst 2), 1) := by decide +kernel
theorem dX5_least_15 : decode cX5_least 15 = .ok ((.invokevirtual 43), 3) := by decide +kernel
theorem dX5_least_18 : decode cX5_least 18 = .ok (.imul, 1) := by decide +kernel
theorem dX5_least_19 : decode cX5_least 19 = .ok (.ireturn, 1) := by decide +kernel
def p_X5_least   (S : vSt) (a1 : Int32) (post : Int32 → vSt → Prop) : Prop := p_X5_gather  S a1 (fun S4 => p_X0_ruleOf 10 S4 2 (fun r6 S5 => post ((-(S4.1 72 2)) * r6) S5))
set_option maxHeartbeats 4000000 in
set_option maxRecDepth 100000 in
theorem c_X5_least (l : Launch) (G : vG)    {S : vSt} (a1 : Int32) (post : Int32 → vSt → Prop) (h : p_X5_least   S a1 post) : Met l yX5_least (v_ws yX5_least cX5_least 2 (some .int)) (v_rm 3 105) (v_Pc G [.ref (G.1 72), .int a1] S) (v_Qi G post) 0 0 (v_A G) := by
  refine v_start (by decide +kernel) (Nat.le_of_ble_eq_true rfl) (fun X hl C D => ?_)
  subst hl
  have C : v_Cx X G cX5_least RX5 2 (v_rm 3 105) := C
  show VJ X G S 0 [(0, .ref (G.1 72)), (1, .int a1)] []
  refine V_aload_n C 0 dX5_least_0 rfl rfl ?_
  refine V_iload_n C 1 dX5_least_1 rfl rfl ?_
  refine V_callVv (As := [.int a1]) (rest := []) C (c_X5_gather (v_l X) G  _ _ h) 72 5 (by decide) (by decide) (by decide) rfl KV_X5_gather k_RX5_51 rfl rfl rfl (Nat.le_of_ble_eq_true rfl) ⟨Nat.le_of_ble_eq_true rfl, Nat.le_of_ble_eq_true rfl⟩ dX5_least_2 (fun S4 h => ?_)
  refine V_aload_n C 0 dX5_least_5 rfl rfl ?_
  refine V_gi C 72 (by decide) (by decide) F_5_2 k_RX5_19 dX5_least_6 ?_
  refine V_ineg C dX5_least_9 ?_
  refine V_aload_n C 0 dX5_least_10 rfl rfl ?_
  refine V_ga C 72 (by decide) (by decide) F_5_0 k_RX5_15 dX5_least_11 ?_
  refine V_iconst (v := 2) C dX5_least_14 (by decide) ?_
  refine V_callVi (As := [.int 2]) (rest := [.int (-(S4.1 72 2))]) C (c_X0_ruleOf (v_l X) G v_i10 _ _ h) 10 0 (by decide) (by decide) (by decide) rfl KV_X0_ruleOf k_RX5_43 rfl rfl rfl (Nat.le_of_ble_eq_true rfl) ⟨Nat.le_of_ble_eq_true rfl, Nat.le_of_ble_eq_true rfl⟩ dX5_least_15 (fun r6 S5 h => ?_)
  refine V_imul C dX5_least_18 ?_
  exact V_iret C D dX5_least_19 h
/-! HalfAccuser$Past.choices(II)I -/
theorem dX5_choices_0 : decode cX5_choices 0 = .ok ((.iload_n 1), 1) := by decide +kernel
theorem dX5_choices_1 : decode cX5_choices 1 = .ok ((.iload_n 0), 1) := by decide +kernel
theorem dX5_choices_2 : decode cX5_choices 2 = .ok ((.if_icmp .le 5), 3) := by decide +kernel
theorem dX5_choices_5 : decode cX5_choices 5 = .ok ((.iconst 0), 1) := by decide +kernel
theorem dX5_choices_6 : decode cX5_choices 6 = .ok (.ireturn, 1) := by decide +kernel
theorem dX5_choices_7 : decode cX5_choices 7 = .ok ((.iconst 1), 1) := by decide +kernel
theorem dX5_choices_8 : decode cX5_choices 8 = .ok ((.istore_n 2), 1) := by decide +kernel
theorem dX5_choices_9 : decode cX5_choices 9 = .ok ((.iconst 1), 1) := by decide +kernel
theorem dX5_choices_10 : decode cX5_choices 10 = .ok ((.istore_n 3), 1) := by decide +kernel
theorem dX5_choices_11 : decode cX5_choices 11 = .ok ((.iload_n 3), 1) := by decide +kernel
theorem dX5_choices_12 : decode cX5_choices 12 = .ok ((.iload_n 1), 1) := by decide +kernel
theorem dX5_choices_13 : decode cX5_choices 13 = .ok ((.if_icmp .gt 19), 3) := by decide +kernel
theorem dX5_choices_16 : decode cX5_choices 16 = .ok ((.iload_n 2), 1) := by decide +kernel
theorem dX5_choices_17 : decode cX5_choices 17 = .ok ((.iload_n 0), 1) := by decide +kernel
theorem dX5_choices_18 : decode cX5_choices 18 = .ok ((.iload_n 3), 1) := by decide +kernel
theorem dX5_choices_19 : decode cX5_choices 19 = .ok (.isub, 1) := by decide +kernel
theorem dX5_choices_20 : decode cX5_choices 20 = .ok ((.iconst 1), 1) := by decide +kernel
theorem dX5_choices_21 : decode cX5_choices 21 = .ok (.iadd, 1) := by decide +kernel
theorem dX5_choices_22 : decode cX5_choices 22 = .ok (.imul, 1) := by decide +kernel
theorem dX5_choices_23 : decode cX5_choices 23 = .ok ((.iload_n 3), 1) := by decide +kernel
theorem dX5_choices_24 : decode cX5_choices 24 = .ok (.idiv, 1) := by decide +kernel
theorem dX5_choices_25 : decode cX5_choices 25 = .ok ((.istore_n 2), 1) := by decide +kernel
theorem dX5_choices_26 : decode cX5_choices 26 = .ok ((.iinc 3 1), 3) := by decide +kernel
theorem dX5_choices_29 : decode cX5_choices 29 = .ok ((.goto (-18)), 3) := by decide +kernel
theorem dX5_choices_32 : decode cX5_choices 32 = .ok ((.iload_n 2), 1) := by decide +kernel
theorem dX5_choices_33 : decode cX5_choices 33 = .ok (.ireturn, 1) := by decide +kernel
def p_X5_choices_11  (a0 : Int32) (a1 : Int32)   (post : Int32 → vSt → Prop) : Nat → vSt → Int32 → Int32 → Prop
  | 0 => fun _ _ _ => False
  | fu11 + 1 => fun S x2 x3 => ((a1 < x3 → post x2 S) ∧ (¬ a1 < x3 → (¬ x3 = 0 ∧ ∀ y5 : Int32, y5 = ((x2 * ((a0 - x3) + 1)) / x3) → ∀ y6 : Int32, y6 = x3 + 1 → (p_X5_choices_11 a0 a1 post fu11) S y5 y6)))
theorem e_X5_choices_11  (a0 : Int32) (a1 : Int32)   (post : Int32 → vSt → Prop) (fu11 : Nat) (S : vSt) (x2 : Int32) (x3 : Int32) : p_X5_choices_11 a0 a1 post (fu11 + 1) S x2 x3 = (((a1 < x3 → post x2 S) ∧ (¬ a1 < x3 → (¬ x3 = 0 ∧ ∀ y5 : Int32, y5 = ((x2 * ((a0 - x3) + 1)) / x3) → ∀ y6 : Int32, y6 = x3 + 1 → (p_X5_choices_11 a0 a1 post fu11) S y5 y6)))) := rfl
def p_X5_choices   (S : vSt) (a0 : Int32) (a1 : Int32) (post : Int32 → vSt → Prop) : Prop := ((a1 ≤ a0 → ∃ fu11, p_X5_choices_11 a0 a1 post fu11 S 1 1) ∧ (¬ a1 ≤ a0 → post 0 S))
set_option maxHeartbeats 4000000 in
set_option maxRecDepth 100000 in
theorem q_X5_choices_11 {X : vX} {G : vG}  {post : Int32 → vSt → Prop} (C : v_Cx X G cX5_choices RX5 4 (v_rm 0 40)) (D : v_Rx X G (v_Qi G post) (some .int))  {a0 : Int32} {a1 : Int32}   : ∀ (fu : Nat) (S : vSt) (x2 : Int32) (x3 : Int32), p_X5_choices_11 a0 a1 post fu S x2 x3 → VJ X G S 11 [(0, .int a0), (1, .int a1), (2, .int x2), (3, .int x3)] [] := by
  intro fu
  induction fu with
  | zero => intro S x2 x3 h; exact absurd h id
  | succ fu ih =>
    intro S x2 x3 h
    have hK11 := ih
    rw [e_X5_choices_11] at h
    refine V_iload_n C 3 dX5_choices_11 rfl rfl ?_
    refine V_iload_n C 1 dX5_choices_12 rfl rfl ?_
    refine V_icmp_gt (tgt := 32) C dX5_choices_13 (by decide) (fun c => ?_) (fun c => ?_)
    · have h := h.1 c
      refine V_iload_n C 2 dX5_choices_32 rfl rfl ?_
      exact V_iret C D dX5_choices_33 h
    · have h := h.2 c
      refine V_iload_n C 2 dX5_choices_16 rfl rfl ?_
      refine V_iload_n C 0 dX5_choices_17 rfl rfl ?_
      refine V_iload_n C 3 dX5_choices_18 rfl rfl ?_
      refine V_isub C dX5_choices_19 ?_
      refine V_iconst (v := 1) C dX5_choices_20 (by decide) ?_
      refine V_iadd C dX5_choices_21 ?_
      refine V_imul C dX5_choices_22 ?_
      refine V_iload_n C 3 dX5_choices_23 rfl rfl ?_
      obtain ⟨hz, h⟩ := h
      refine V_idiv C dX5_choices_24 hz ?_
      refine V_topi (fun y5 ey5 => ?_)
      have h := h y5 ey5
      refine V_istore_n (lv' := [(0, .int a0), (1, .int a1), (2, .int y5), (3, .int x3)]) C [1, 2, 0, 3] dX5_choices_25 rfl (by decide) rfl ?_
      obtain ⟨y6, ey6⟩ : ∃ z : Int32, z = x3 + 1 := ⟨_, rfl⟩
      have h := h y6 ey6
      refine V_iinc (lv' := [(0, .int a0), (1, .int a1), (2, .int y5), (3, .int y6)]) C 3 [1, 2, 3, 0] y6 dX5_choices_26 rfl (by rw [ey6]; rfl) (by decide) rfl ?_
      refine V_goto (tgt := 11) C dX5_choices_29 (by decide) ?_
      exact hK11 _ _ _ h
set_option maxHeartbeats 4000000 in
set_option maxRecDepth 100000 in
theorem c_X5_choices (l : Launch) (G : vG)    {S : vSt} (a0 : Int32) (a1 : Int32) (post : Int32 → vSt → Prop) (h : p_X5_choices   S a0 a1 post) : Met l yX5_choices (v_ws yX5_choices cX5_choices 4 (some .int)) (v_rm 0 40) (v_Pc G [.int a0, .int a1] S) (v_Qi G post) 0 0 (v_A G) := by
  refine v_start (by decide +kernel) (Nat.le_of_ble_eq_true rfl) (fun X hl C D => ?_)
  subst hl
  have C : v_Cx X G cX5_choices RX5 4 (v_rm 0 40) := C
  show VJ X G S 0 [(0, .int a0), (1, .int a1)] []
  refine V_iload_n C 1 dX5_choices_0 rfl rfl ?_
  refine V_iload_n C 0 dX5_choices_1 rfl rfl ?_
  refine V_icmp_le (tgt := 7) C dX5_choices_2 (by decide) (fun c => ?_) (fun c => ?_)
  · have h := h.1 c
    refine V_iconst (v := 1) C dX5_choices_7 (by decide) ?_
    refine V_istore_n (lv' := [(0, .int a0), (1, .int a1), (2, .int 1)]) C [1, 2, 0] dX5_choices_8 rfl (by decide) rfl ?_
    refine V_iconst (v := 1) C dX5_choices_9 (by decide) ?_
    refine V_istore_n (lv' := [(0, .int a0), (1, .int a1), (2, .int 1), (3, .int 1)]) C [1, 2, 3, 0] dX5_choices_10 rfl (by decide) rfl ?_
    obtain ⟨fu11, h⟩ := h
    exact q_X5_choices_11 C D  fu11 _ _ _ h
  · have h := h.2 c
    refine V_iconst (v := 0) C dX5_choices_5 (by decide) ?_
    exact V_iret C D dX5_choices_6 h
/-! HalfAccuser$Past.waysToPay(II)I -/
theorem dX5_waysToPay_0 : decode cX5_waysToPay 0 = .ok ((.aload_n 0), 1) := by decide +kernel
theorem dX5_waysToPay_1 : decode cX5_waysToPay 1 = .ok ((.getfield 15), 3) := by decide +kernel
theorem dX5_waysToPay_4 : decode cX5_waysToPay 4 = .ok ((.iconst 2), 1) := by decide +kernel
theorem dX5_waysToPay_5 : decode cX5_waysToPay 5 = .ok ((.invokevirtual 43), 3) := by decide +kernel
theorem dX5_waysToPay_8 : decode cX5_waysToPay 8 = .ok ((.istore_n 3), 1) := by decide +kernel
theorem dX5_waysToPay_9 : decode cX5_waysToPay 9 = .ok ((.iload_n 3), 1) := by decide +kernel
theorem dX5_waysToPay_10 : decode cX5_waysToPay 10 = .ok ((.ifCond .ne 15), 3) := by decide +kernel
theorem dX5_waysToPay_13 : decode cX5_waysToPay 13 = .ok ((.iload_n 1), 1) := by decide +kernel
theorem dX5_waysToPay_14 : decode cX5_waysToPay 14 = .ok ((.ifCond .ne 9), 3) := by decide +kernel
theorem dX5_waysToPay_17 : decode cX5_waysToPay 17 = .ok ((.iconst 1), 1) := by decide +kernel
theorem dX5_waysToPay_18 : decode cX5_waysToPay 18 = .ok ((.iload_n 2), 1) := by decide +kernel
theorem dX5_waysToPay_19 : decode cX5_waysToPay 19 = .ok (.ishl, 1) := by decide +kernel
theorem dX5_waysToPay_20 : decode cX5_waysToPay 20 = .ok ((.goto 4), 3) := by decide +kernel
theorem dX5_waysToPay_23 : decode cX5_waysToPay 23 = .ok ((.iconst 0), 1) := by decide +kernel
theorem dX5_waysToPay_24 : decode cX5_waysToPay 24 = .ok (.ireturn, 1) := by decide +kernel
theorem dX5_waysToPay_25 : decode cX5_waysToPay 25 = .ok ((.iload_n 1), 1) := by decide +kernel
theorem dX5_waysToPay_26 : decode cX5_waysToPay 26 = .ok ((.ifCond .lt 9), 3) := by decide +kernel
theorem dX5_waysToPay_29 : decode cX5_waysToPay 29 = .ok ((.iload_n 1), 1) := by decide +kernel
theorem dX5_waysToPay_30 : decode cX5_waysToPay 30 = .ok ((.iload_n 3), 1) := by decide +kernel
theorem dX5_waysToPay_31 : decode cX5_waysToPay 31 = .ok (.irem, 1) := by decide +kernel
theorem dX5_waysToPay_32 : decode cX5_waysToPay 32 = .ok ((.ifCond .eq 5), 3) := by decide +kernel
theorem dX5_waysToPay_35 : decode cX5_waysToPay 35 = .ok ((.iconst 0), 1) := by decide +kernel
theorem dX5_waysToPay_36 : decode cX5_waysToPay 36 = .ok (.ireturn, 1) := by decide +kernel
theorem dX5_waysToPay_37 : decode cX5_waysToPay 37 = .ok ((.iload_n 2), 1) := by decide +kernel
theorem dX5_waysToPay_38 : decode cX5_waysToPay 38 = .ok ((.iload_n 1), 1) := by decide +kernel
theorem dX5_waysToPay_39 : decode cX5_waysToPay 39 = .ok ((.iload_n 3), 1) := by decide +kernel
theorem dX5_waysToPay_40 : decode cX5_waysToPay 40 = .ok (.idiv, 1) := by decide +kernel
theorem dX5_waysToPay_41 : decode cX5_waysToPay 41 = .ok ((.invokestatic 75), 3) := by decide +kernel
theorem dX5_waysToPay_44 : decode cX5_waysToPay 44 = .ok (.ireturn, 1) := by decide +kernel
def p_X5_waysToPay   (S : vSt) (a1 : Int32) (a2 : Int32) (post : Int32 → vSt → Prop) : Prop := p_X0_ruleOf 10 S 2 (fun r6 S5 => ((¬ r6 = 0 → ((a1 < 0 → post 0 S5) ∧ (¬ a1 < 0 → (¬ r6 = 0 ∧ (((a1 - a1 / r6 * r6) = 0 → (¬ r6 = 0 ∧ p_X5_choices  S5 a2 (a1 / r6) (fun r8 S7 => post r8 S7))) ∧ (¬ (a1 - a1 / r6 * r6) = 0 → post 0 S5)))))) ∧ (r6 = 0 → ((¬ a1 = 0 → post 0 S5) ∧ (a1 = 0 → post ((1 : Int32) <<< (a2 &&& 31)) S5)))))
set_option maxHeartbeats 4000000 in
set_option maxRecDepth 100000 in
theorem c_X5_waysToPay (l : Launch) (G : vG)    {S : vSt} (a1 : Int32) (a2 : Int32) (post : Int32 → vSt → Prop) (h : p_X5_waysToPay   S a1 a2 post) : Met l yX5_waysToPay (v_ws yX5_waysToPay cX5_waysToPay 4 (some .int)) (v_rm 2 82) (v_Pc G [.ref (G.1 72), .int a1, .int a2] S) (v_Qi G post) 0 0 (v_A G) := by
  refine v_start (by decide +kernel) (Nat.le_of_ble_eq_true rfl) (fun X hl C D => ?_)
  subst hl
  have C : v_Cx X G cX5_waysToPay RX5 4 (v_rm 2 82) := C
  show VJ X G S 0 [(0, .ref (G.1 72)), (1, .int a1), (2, .int a2)] []
  refine V_aload_n C 0 dX5_waysToPay_0 rfl rfl ?_
  refine V_ga C 72 (by decide) (by decide) F_5_0 k_RX5_15 dX5_waysToPay_1 ?_
  refine V_iconst (v := 2) C dX5_waysToPay_4 (by decide) ?_
  refine V_callVi (As := [.int 2]) (rest := []) C (c_X0_ruleOf (v_l X) G v_i10 _ _ h) 10 0 (by decide) (by decide) (by decide) rfl KV_X0_ruleOf k_RX5_43 rfl rfl rfl (Nat.le_of_ble_eq_true rfl) ⟨Nat.le_of_ble_eq_true rfl, Nat.le_of_ble_eq_true rfl⟩ dX5_waysToPay_5 (fun r6 S5 h => ?_)
  refine V_istore_n (lv' := [(0, .ref (G.1 72)), (1, .int a1), (2, .int a2), (3, .int r6)]) C [1, 2, 3, 0] dX5_waysToPay_8 rfl (by decide) rfl ?_
  refine V_iload_n C 3 dX5_waysToPay_9 rfl rfl ?_
  refine V_if_ne (tgt := 25) C dX5_waysToPay_10 (by decide) (fun c => ?_) (fun c => ?_)
  · have h := h.1 c
    refine V_iload_n C 1 dX5_waysToPay_25 rfl rfl ?_
    refine V_if_lt (tgt := 35) C dX5_waysToPay_26 (by decide) (fun c => ?_) (fun c => ?_)
    · have h := h.1 c
      refine V_iconst (v := 0) C dX5_waysToPay_35 (by decide) ?_
      exact V_iret C D dX5_waysToPay_36 h
    · have h := h.2 c
      refine V_iload_n C 1 dX5_waysToPay_29 rfl rfl ?_
      refine V_iload_n C 3 dX5_waysToPay_30 rfl rfl ?_
      obtain ⟨hz, h⟩ := h
      refine V_irem C dX5_waysToPay_31 hz ?_
      refine V_if_eq (tgt := 37) C dX5_waysToPay_32 (by decide) (fun c => ?_) (fun c => ?_)
      · have h := h.1 c
        refine V_iload_n C 2 dX5_waysToPay_37 rfl rfl ?_
        refine V_iload_n C 1 dX5_waysToPay_38 rfl rfl ?_
        refine V_iload_n C 3 dX5_waysToPay_39 rfl rfl ?_
        obtain ⟨hz, h⟩ := h
        refine V_idiv C dX5_waysToPay_40 hz ?_
        refine V_callSi (As := [.int a2, .int (a1 / r6)]) (rest := []) C (c_X5_choices (v_l X) G  _ _ _ h) KV_X5_choices k_RX5_75 rfl rfl rfl (Nat.le_of_ble_eq_true rfl) ⟨Nat.le_of_ble_eq_true rfl, Nat.le_of_ble_eq_true rfl⟩ dX5_waysToPay_41 (fun r8 S7 h => ?_)
        exact V_iret C D dX5_waysToPay_44 h
      · have h := h.2 c
        refine V_iconst (v := 0) C dX5_waysToPay_35 (by decide) ?_
        exact V_iret C D dX5_waysToPay_36 h
  · have h := h.2 c
    refine V_iload_n C 1 dX5_waysToPay_13 rfl rfl ?_
    refine V_if_ne (tgt := 23) C dX5_waysToPay_14 (by decide) (fun c => ?_) (fun c => ?_)
    · have h := h.1 c
      refine V_iconst (v := 0) C dX5_waysToPay_23 (by decide) ?_
      exact V_iret C D dX5_waysToPay_24 h
    · have h := h.2 c
      refine V_iconst (v := 1) C dX5_waysToPay_17 (by decide) ?_
      refine V_iload_n C 2 dX5_waysToPay_18 rfl rfl ?_
      refine V_ishl C dX5_waysToPay_19 ?_
      refine V_goto (tgt := 24) C dX5_waysToPay_20 (by decide) ?_
      exact V_iret C D dX5_waysToPay_24 h
/-! HalfAccuser$Past.look(II)V -/
theorem dX5_look_0 : decode cX5_look 0 = .ok ((.aload_n 0), 1) := by decide +kernel
theorem dX5_look_1 : decode cX5_look 1 = .ok ((.iload_n 1), 1) := by decide +kernel
theorem dX5_look_2 : decode cX5_look 2 = .ok ((.invokevirtual 51), 3) := by decide +kernel
theorem dX5_look_5 : decode cX5_look 5 = .ok ((.aload_n 0), 1) := by decide +kernel
theorem dX5_look_6 : decode cX5_look 6 = .ok ((.iconst 0), 1) := by decide +kernel
theorem dX5_look_7 : decode cX5_look 7 = .ok ((.putfield 58), 3) := by decide +kernel
theorem dX5_look_10 : decode cX5_look 10 = .ok ((.aload_n 0), 1) := by decide +kernel
theorem dX5_look_11 : decode cX5_look 11 = .ok ((.sipush 1023), 3) := by decide +kernel
theorem dX5_look_14 : decode cX5_look 14 = .ok ((.putfield 61), 3) := by decide +kernel
theorem dX5_look_17 : decode cX5_look 17 = .ok ((.iconst 0), 1) := by decide +kernel
theorem dX5_look_18 : decode cX5_look 18 = .ok ((.istore_n 3), 1) := by decide +kernel
theorem dX5_look_19 : decode cX5_look 19 = .ok ((.iload_n 3), 1) := by decide +kernel
theorem dX5_look_20 : decode cX5_look 20 = .ok ((.iconst 1), 1) := by decide +kernel
theorem dX5_look_21 : decode cX5_look 21 = .ok ((.aload_n 0), 1) := by decide +kernel
theorem dX5_look_22 : decode cX5_look 22 = .ok ((.getfield 19), 3) := by decide +kernel
theorem dX5_look_25 : decode cX5_look 25 = .ok (.ishl, 1) := by decide +kernel
theorem dX5_look_26 : decode cX5_look 26 = .ok ((.if_icmp .ge 122), 3) := by decide +kernel
theorem dX5_look_29 : decode cX5_look 29 = .ok ((.iconst 0), 1) := by decide +kernel
theorem dX5_look_30 : decode cX5_look 30 = .ok ((.istore 4), 2) := by decide +kernel
theorem dX5_look_32 : decode cX5_look 32 = .ok ((.iconst 0), 1) := by decide +kernel
theorem dX5_look_33 : decode cX5_look 33 = .ok ((.istore 5), 2) := by decide +kernel
theorem dX5_look_35 : decode cX5_look 35 = .ok ((.iconst 0), 1) := by decide +kernel
theorem dX5_look_36 : decode cX5_look 36 = .ok ((.istore 6), 2) := by decide +kernel
theorem dX5_look_38 : decode cX5_look 38 = .ok ((.iload 6), 2) := by decide +kernel
theorem dX5_look_40 : decode cX5_look 40 = .ok ((.aload_n 0), 1) := by decide +kernel
theorem dX5_look_41 : decode cX5_look 41 = .ok ((.getfield 19), 3) := by decide +kernel
theorem dX5_look_44 : decode cX5_look 44 = .ok ((.if_icmp .ge 45), 3) := by decide +kernel
theorem dX5_look_47 : decode cX5_look 47 = .ok ((.iload_n 3), 1) := by decide +kernel
theorem dX5_look_48 : decode cX5_look 48 = .ok ((.iload 6), 2) := by decide +kernel
theorem dX5_look_50 : decode cX5_look 50 = .ok ((.invokestatic 64), 3) := by decide +kernel
theorem dX5_look_53 : decode cX5_look 53 = .ok ((.ifCond .eq 30), 3) := by decide +kernel
theorem dX5_look_56 : decode cX5_look 56 = .ok ((.iload 4), 2) := by decide +kernel
theorem dX5_look_58 : decode cX5_look 58 = .ok ((.aload_n 0), 1) := by decide +kernel
theorem dX5_look_59 : decode cX5_look 59 = .ok ((.iload 6), 2) := by decide +kernel
theorem dX5_look_61 : decode cX5_look 61 = .ok ((.invokevirtual 55), 3) := by decide +kernel
theorem dX5_look_64 : decode cX5_look 64 = .ok (.iadd, 1) := by decide +kernel
theorem dX5_look_65 : decode cX5_look 65 = .ok ((.istore 4), 2) := by decide +kernel
theorem dX5_look_67 : decode cX5_look 67 = .ok ((.iload 5), 2) := by decide +kernel
theorem dX5_look_69 : decode cX5_look 69 = .ok ((.iconst 1), 1) := by decide +kernel
theorem dX5_look_70 : decode cX5_look 70 = .ok ((.aload_n 0), 1) := by decide +kernel
theorem dX5_look_71 : decode cX5_look 71 = .ok ((.getfield 9), 3) := by decide +kernel
theorem dX5_look_74 : decode cX5_look 74 = .ok ((.iload 6), 2) := by decide +kernel
theorem dX5_look_76 : decode cX5_look 76 = .ok ((.invokestatic 39), 3) := by decide +kernel
theorem dX5_look_79 : decode cX5_look 79 = .ok (.ishl, 1) := by decide +kernel
theorem dX5_look_80 : decode cX5_look 80 = .ok (.ior, 1) := by decide +kernel
theorem dX5_look_81 : decode cX5_look 81 = .ok ((.istore 5), 2) := by decide +kernel
theorem dX5_look_83 : decode cX5_look 83 = .ok ((.iinc 6 1), 3) := by decide +kernel
theorem dX5_look_86 : decode cX5_look 86 = .ok ((.goto (-48)), 3) := by decide +kernel
theorem dX5_look_89 : decode cX5_look 89 = .ok ((.aload_n 0), 1) := by decide +kernel
theorem dX5_look_90 : decode cX5_look 90 = .ok ((.iload 4), 2) := by decide +kernel
theorem dX5_look_92 : decode cX5_look 92 = .ok ((.iload_n 2), 1) := by decide +kernel
theorem dX5_look_93 : decode cX5_look 93 = .ok (.isub, 1) := by decide +kernel
theorem dX5_look_94 : decode cX5_look 94 = .ok ((.aload_n 0), 1) := by decide +kernel
theorem dX5_look_95 : decode cX5_look 95 = .ok ((.getfield 19), 3) := by decide +kernel
theorem dX5_look_98 : decode cX5_look 98 = .ok ((.iload_n 3), 1) := by decide +kernel
theorem dX5_look_99 : decode cX5_look 99 = .ok ((.invokestatic 67), 3) := by decide +kernel
theorem dX5_look_102 : decode cX5_look 102 = .ok (.isub, 1) := by decide +kernel
theorem dX5_look_103 : decode cX5_look 103 = .ok ((.invokevirtual 72), 3) := by decide +kernel
theorem dX5_look_106 : decode cX5_look 106 = .ok ((.istore 6), 2) := by decide +kernel
theorem dX5_look_108 : decode cX5_look 108 = .ok ((.aload_n 0), 1) := by decide +kernel
theorem dX5_look_109 : decode cX5_look 109 = .ok (.dup, 1) := by decide +kernel
theorem dX5_look_110 : decode cX5_look 110 = .ok ((.getfield 58), 3) := by decide +kernel
theorem dX5_look_113 : decode cX5_look 113 = .ok ((.iload 6), 2) := by decide +kernel
theorem dX5_look_115 : decode cX5_look 115 = .ok (.iadd, 1) := by decide +kernel
theorem dX5_look_116 : decode cX5_look 116 = .ok ((.putfield 58), 3) := by decide +kernel
theorem dX5_look_119 : decode cX5_look 119 = .ok ((.aload_n 0), 1) := by decide +kernel
theorem dX5_look_120 : decode cX5_look 120 = .ok (.dup, 1) := by decide +kernel
theorem dX5_look_121 : decode cX5_look 121 = .ok ((.getfield 61), 3) := by decide +kernel
theorem dX5_look_124 : decode cX5_look 124 = .ok ((.iload 6), 2) := by decide +kernel
theorem dX5_look_126 : decode cX5_look 126 = .ok ((.ifCond .le 8), 3) := by decide +kernel
theorem dX5_look_129 : decode cX5_look 129 = .ok ((.iload 5), 2) := by decide +kernel
theorem dX5_look_131 : decode cX5_look 131 = .ok ((.goto 7), 3) := by decide +kernel
theorem dX5_look_134 : decode cX5_look 134 = .ok ((.aload_n 0), 1) := by decide +kernel
theorem dX5_look_135 : decode cX5_look 135 = .ok ((.getfield 61), 3) := by decide +kernel
theorem dX5_look_138 : decode cX5_look 138 = .ok (.iand, 1) := by decide +kernel
theorem dX5_look_139 : decode cX5_look 139 = .ok ((.putfield 61), 3) := by decide +kernel
theorem dX5_look_142 : decode cX5_look 142 = .ok ((.iinc 3 1), 3) := by decide +kernel
theorem dX5_look_145 : decode cX5_look 145 = .ok ((.goto (-126)), 3) := by decide +kernel
theorem dX5_look_148 : decode cX5_look 148 = .ok (.return_, 1) := by decide +kernel
def p_X5_look_138  (a1 : Int32) (a2 : Int32)  (K19 : vSt → Int32 → Prop) (post : vSt → Prop) (S : vSt) (x3 : Int32) (s0 : Int32) (s1 : Int32) : Prop := ∀ S44, S44 = v_si S 72 4 (s1 &&& s0) → ∀ y45 : Int32, y45 = x3 + 1 → K19 S44 y45
def p_X5_look_83  (a1 : Int32) (a2 : Int32)  (K19 : vSt → Int32 → Prop) (K38 : vSt → Int32 → Int32 → Int32 → Int32 → Prop) (post : vSt → Prop) (S : vSt) (x3 : Int32) (x4 : Int32) (x5 : Int32) (x6 : Int32) : Prop := ∀ y46 : Int32, y46 = x6 + 1 → K38 S x3 x4 x5 y46
def p_X5_look_38  (a1 : Int32) (a2 : Int32)  (K19 : vSt → Int32 → Prop) (post : vSt → Prop) : Nat → vSt → Int32 → Int32 → Int32 → Int32 → Prop
  | 0 => fun _ _ _ _ _ => False
  | fu38 + 1 => fun S x3 x4 x5 x6 => (((S.1 72 2) ≤ x6 → p_J6_bitCount_0f7a4  S x3 (fun r40 S39 => p_X5_waysToPay  S39 (x4 - a2) ((S.1 72 2) - r40) (fun r42 S41 => ∀ S43, S43 = v_si S41 72 3 ((S41.1 72 3) + r42) → ((r42 ≤ 0 → p_X5_look_138 a1 a2 K19 post S43 x3 (S43.1 72 4) (S43.1 72 4)) ∧ (¬ r42 ≤ 0 → p_X5_look_138 a1 a2 K19 post S43 x3 x5 (S43.1 72 4)))))) ∧ (¬ (S.1 72 2) ≤ x6 → p_X10_isIn  S x3 x6 (fun r45 S44 => ((r45 = false → p_X5_look_83 a1 a2 K19 (p_X5_look_38 a1 a2 K19 post fu38) post S44 x3 x4 x5 x6) ∧ (r45 = true → p_X5_prize  S44 x6 (fun r47 S46 => ∀ y48 : Int32, y48 = (x4 + r47) → p_X10_at 73 10 S46 x6 (fun r50 S49 => ∀ y51 : Int32, y51 = (x5 ||| ((1 : Int32) <<< (r50 &&& 31))) → p_X5_look_83 a1 a2 K19 (p_X5_look_38 a1 a2 K19 post fu38) post S49 x3 y48 y51 x6)))))))
theorem e_X5_look_38  (a1 : Int32) (a2 : Int32)  (K19 : vSt → Int32 → Prop) (post : vSt → Prop) (fu38 : Nat) (S : vSt) (x3 : Int32) (x4 : Int32) (x5 : Int32) (x6 : Int32) : p_X5_look_38 a1 a2 K19 post (fu38 + 1) S x3 x4 x5 x6 = ((((S.1 72 2) ≤ x6 → p_J6_bitCount_0f7a4  S x3 (fun r40 S39 => p_X5_waysToPay  S39 (x4 - a2) ((S.1 72 2) - r40) (fun r42 S41 => ∀ S43, S43 = v_si S41 72 3 ((S41.1 72 3) + r42) → ((r42 ≤ 0 → p_X5_look_138 a1 a2 K19 post S43 x3 (S43.1 72 4) (S43.1 72 4)) ∧ (¬ r42 ≤ 0 → p_X5_look_138 a1 a2 K19 post S43 x3 x5 (S43.1 72 4)))))) ∧ (¬ (S.1 72 2) ≤ x6 → p_X10_isIn  S x3 x6 (fun r45 S44 => ((r45 = false → p_X5_look_83 a1 a2 K19 (p_X5_look_38 a1 a2 K19 post fu38) post S44 x3 x4 x5 x6) ∧ (r45 = true → p_X5_prize  S44 x6 (fun r47 S46 => ∀ y48 : Int32, y48 = (x4 + r47) → p_X10_at 73 10 S46 x6 (fun r50 S49 => ∀ y51 : Int32, y51 = (x5 ||| ((1 : Int32) <<< (r50 &&& 31))) → p_X5_look_83 a1 a2 K19 (p_X5_look_38 a1 a2 K19 post fu38) post S49 x3 y48 y51 x6)))))))) := rfl
def p_X5_look_19  (a1 : Int32) (a2 : Int32)   (post : vSt → Prop) : Nat → vSt → Int32 → Prop
  | 0 => fun _ _ => False
  | fu19 + 1 => fun S x3 => ((((1 : Int32) <<< ((S.1 72 2) &&& 31)) ≤ x3 → post S) ∧ (¬ ((1 : Int32) <<< ((S.1 72 2) &&& 31)) ≤ x3 → ∃ fu38, p_X5_look_38 a1 a2 (p_X5_look_19 a1 a2 post fu19) post fu38 S x3 0 0 0))
theorem e_X5_look_19  (a1 : Int32) (a2 : Int32)   (post : vSt → Prop) (fu19 : Nat) (S : vSt) (x3 : Int32) : p_X5_look_19 a1 a2 post (fu19 + 1) S x3 = (((((1 : Int32) <<< ((S.1 72 2) &&& 31)) ≤ x3 → post S) ∧ (¬ ((1 : Int32) <<< ((S.1 72 2) &&& 31)) ≤ x3 → ∃ fu38, p_X5_look_38 a1 a2 (p_X5_look_19 a1 a2 post fu19) post fu38 S x3 0 0 0))) := rfl
def p_X5_look   (S : vSt) (a1 : Int32) (a2 : Int32) (post : vSt → Prop) : Prop := p_X5_gather  S a1 (fun S36 => ∀ S37, S37 = v_si S36 72 3 0 → ∀ S38, S38 = v_si S37 72 4 1023 → ∃ fu19, p_X5_look_19 a1 a2 post fu19 S38 0)
set_option maxHeartbeats 4000000 in
set_option maxRecDepth 100000 in
theorem q_X5_look_138 {X : vX} {G : vG}  {post : vSt → Prop} (C : v_Cx X G cX5_look RX5 7 (v_rm 3 105)) (D : v_Rx X G (v_Qv G post) none)  {a1 : Int32} {a2 : Int32}  {K19 : vSt → Int32 → Prop} (hK19 : ∀ S x3, K19 S x3 → VJ X G S 19 [(0, .ref (G.1 72)), (2, .int a2), (3, .int x3)] []) : ∀ (S : vSt) (x3 : Int32) (s0 : Int32) (s1 : Int32), p_X5_look_138 a1 a2 K19 post S x3 s0 s1 → VJ X G S 138 [(0, .ref (G.1 72)), (2, .int a2), (3, .int x3)] [.int s0, .int s1, .ref (G.1 72)] := by
  intro S x3 s0 s1 h
  refine V_iand C dX5_look_138 ?_
  refine V_pi C 72 (by decide) (by decide) P_5_4 k_RX5_61 dX5_look_139 ?_
  refine V_topS (fun S44 eS44 => ?_)
  have h := h S44 eS44
  obtain ⟨y45, ey45⟩ : ∃ z : Int32, z = x3 + 1 := ⟨_, rfl⟩
  have h := h y45 ey45
  refine V_iinc (lv' := [(0, .ref (G.1 72)), (2, .int a2), (3, .int y45)]) C 2 [1, 2, 0] y45 dX5_look_142 rfl (by rw [ey45]; rfl) (by decide) rfl ?_
  refine V_goto (tgt := 19) C dX5_look_145 (by decide) ?_
  exact hK19 _ _ h
set_option maxHeartbeats 4000000 in
set_option maxRecDepth 100000 in
theorem q_X5_look_83 {X : vX} {G : vG}  {post : vSt → Prop} (C : v_Cx X G cX5_look RX5 7 (v_rm 3 105)) (D : v_Rx X G (v_Qv G post) none)  {a1 : Int32} {a2 : Int32}  {K19 : vSt → Int32 → Prop} (hK19 : ∀ S x3, K19 S x3 → VJ X G S 19 [(0, .ref (G.1 72)), (2, .int a2), (3, .int x3)] []) {K38 : vSt → Int32 → Int32 → Int32 → Int32 → Prop} (hK38 : ∀ S x3 x4 x5 x6, K38 S x3 x4 x5 x6 → VJ X G S 38 [(0, .ref (G.1 72)), (2, .int a2), (3, .int x3), (4, .int x4), (5, .int x5), (6, .int x6)] []) : ∀ (S : vSt) (x3 : Int32) (x4 : Int32) (x5 : Int32) (x6 : Int32), p_X5_look_83 a1 a2 K19 K38 post S x3 x4 x5 x6 → VJ X G S 83 [(0, .ref (G.1 72)), (2, .int a2), (3, .int x3), (4, .int x4), (5, .int x5), (6, .int x6)] [] := by
  intro S x3 x4 x5 x6 h
  obtain ⟨y46, ey46⟩ : ∃ z : Int32, z = x6 + 1 := ⟨_, rfl⟩
  have h := h y46 ey46
  refine V_iinc (lv' := [(0, .ref (G.1 72)), (2, .int a2), (3, .int x3), (4, .int x4), (5, .int x5), (6, .int y46)]) C 5 [1, 2, 3, 4, 5, 0] y46 dX5_look_83 rfl (by rw [ey46]; rfl) (by decide) rfl ?_
  refine V_goto (tgt := 38) C dX5_look_86 (by decide) ?_
  exact hK38 _ _ _ _ _ h
set_option maxHeartbeats 4000000 in
set_option maxRecDepth 100000 in
theorem q_X5_look_38 {X : vX} {G : vG}  {post : vSt → Prop} (C : v_Cx X G cX5_look RX5 7 (v_rm 3 105)) (D : v_Rx X G (v_Qv G post) none)  {a1 : Int32} {a2 : Int32}  {K19 : vSt → Int32 → Prop} (hK19 : ∀ S x3, K19 S x3 → VJ X G S 19 [(0, .ref (G.1 72)), (2, .int a2), (3, .int x3)] []) : ∀ (fu : Nat) (S : vSt) (x3 : Int32) (x4 : Int32) (x5 : Int32) (x6 : Int32), p_X5_look_38 a1 a2 K19 post fu S x3 x4 x5 x6 → VJ X G S 38 [(0, .ref (G.1 72)), (2, .int a2), (3, .int x3), (4, .int x4), (5, .int x5), (6, .int x6)] [] := by
  intro fu
  induction fu with
  | zero => intro S x3 x4 x5 x6 h; exact absurd h id
  | succ fu ih =>
    intro S x3 x4 x5 x6 h
    have hK38 := ih
    rw [e_X5_look_38] at h
    refine V_iload C 5 dX5_look_38 rfl ?_
    refine V_aload_n C 0 dX5_look_40 rfl rfl ?_
    refine V_gi C 72 (by decide) (by decide) F_5_2 k_RX5_19 dX5_look_41 ?_
    refine V_icmp_ge (tgt := 89) C dX5_look_44 (by decide) (fun c => ?_) (fun c => ?_)
    · have h := h.1 c
      refine V_aload_n C 0 dX5_look_89 rfl rfl ?_
      refine V_iload C 3 dX5_look_90 rfl ?_
      refine V_iload_n C 1 dX5_look_92 rfl rfl ?_
      refine V_isub C dX5_look_93 ?_
      refine V_aload_n C 0 dX5_look_94 rfl rfl ?_
      refine V_gi C 72 (by decide) (by decide) F_5_2 k_RX5_19 dX5_look_95 ?_
      refine V_iload_n C 2 dX5_look_98 rfl rfl ?_
      refine V_callSi (As := [.int x3]) (rest := [.int (S.1 72 2), .int (x4 - a2), .ref (G.1 72)]) C (c_J6_bitCount_0f7a4 (v_l X) G  _ _ h) KV_J6_bitCount_0f7a4 k_RX5_67 rfl rfl rfl (Nat.le_of_ble_eq_true rfl) ⟨Nat.le_of_ble_eq_true rfl, Nat.le_of_ble_eq_true rfl⟩ dX5_look_99 (fun r40 S39 h => ?_)
      refine V_isub C dX5_look_102 ?_
      refine V_callVi (As := [.int (x4 - a2), .int ((S.1 72 2) - r40)]) (rest := []) C (c_X5_waysToPay (v_l X) G  _ _ _ h) 72 5 (by decide) (by decide) (by decide) rfl KV_X5_waysToPay k_RX5_72 rfl rfl rfl (Nat.le_of_ble_eq_true rfl) ⟨Nat.le_of_ble_eq_true rfl, Nat.le_of_ble_eq_true rfl⟩ dX5_look_103 (fun r42 S41 h => ?_)
      refine V_istore (lv' := [(0, .ref (G.1 72)), (2, .int a2), (3, .int x3), (4, .int x4), (5, .int x5), (6, .int r42)]) C [1, 2, 3, 4, 5, 0] dX5_look_106 (by decide) rfl ?_
      refine V_aload_n C 0 dX5_look_108 rfl rfl ?_
      refine V_dup C dX5_look_109 rfl ?_
      refine V_gi C 72 (by decide) (by decide) F_5_3 k_RX5_58 dX5_look_110 ?_
      refine V_iload C 5 dX5_look_113 rfl ?_
      refine V_iadd C dX5_look_115 ?_
      refine V_pi C 72 (by decide) (by decide) P_5_3 k_RX5_58 dX5_look_116 ?_
      refine V_topS (fun S43 eS43 => ?_)
      have h := h S43 eS43
      refine V_aload_n C 0 dX5_look_119 rfl rfl ?_
      refine V_dup C dX5_look_120 rfl ?_
      refine V_gi C 72 (by decide) (by decide) F_5_4 k_RX5_61 dX5_look_121 ?_
      refine V_iload C 5 dX5_look_124 rfl ?_
      refine V_if_le (tgt := 134) C dX5_look_126 (by decide) (fun c => ?_) (fun c => ?_)
      · have h := h.1 c
        refine V_aload_n C 0 dX5_look_134 rfl rfl ?_
        refine V_gi C 72 (by decide) (by decide) F_5_4 k_RX5_61 dX5_look_135 ?_
        refine V_loc (lv' := [(0, .ref (G.1 72)), (2, .int a2), (3, .int x3)]) [0, 1, 2] rfl ?_
        exact q_X5_look_138 C D hK19 _ _ _ _ h
      · have h := h.2 c
        refine V_iload C 4 dX5_look_129 rfl ?_
        refine V_goto (tgt := 138) C dX5_look_131 (by decide) ?_
        refine V_loc (lv' := [(0, .ref (G.1 72)), (2, .int a2), (3, .int x3)]) [0, 1, 2] rfl ?_
        exact q_X5_look_138 C D hK19 _ _ _ _ h
    · have h := h.2 c
      refine V_iload_n C 2 dX5_look_47 rfl rfl ?_
      refine V_iload C 5 dX5_look_48 rfl ?_
      refine V_callSNz (As := [.int x3, .int x6]) (rest := []) C (c_X10_isIn (v_l X) G  _ _ _ h) KV_X10_isIn (List.mem_of_getElem? (i := 20) rfl) rfl rfl rfl (Nat.le_of_ble_eq_true rfl) ⟨Nat.le_of_ble_eq_true rfl, Nat.le_of_ble_eq_true rfl⟩ dX5_look_50 (fun r45 S44 h => ?_)
      refine V_ifb_eq (tgt := 83) C dX5_look_53 (by decide) (fun c => ?_) (fun c => ?_)
      · have h := h.1 c
        exact q_X5_look_83 C D hK19 hK38 _ _ _ _ _ h
      · have h := h.2 c
        refine V_iload C 3 dX5_look_56 rfl ?_
        refine V_aload_n C 0 dX5_look_58 rfl rfl ?_
        refine V_iload C 5 dX5_look_59 rfl ?_
        refine V_callVi (As := [.int x6]) (rest := [.int x4]) C (c_X5_prize (v_l X) G  _ _ h) 72 5 (by decide) (by decide) (by decide) rfl KV_X5_prize k_RX5_55 rfl rfl rfl (Nat.le_of_ble_eq_true rfl) ⟨Nat.le_of_ble_eq_true rfl, Nat.le_of_ble_eq_true rfl⟩ dX5_look_61 (fun r47 S46 h => ?_)
        refine V_iadd C dX5_look_64 ?_
        refine V_topi (fun y48 ey48 => ?_)
        have h := h y48 ey48
        refine V_istore (lv' := [(0, .ref (G.1 72)), (2, .int a2), (3, .int x3), (4, .int y48), (5, .int x5), (6, .int x6)]) C [1, 2, 3, 0, 4, 5] dX5_look_65 (by decide) rfl ?_
        refine V_iload C 4 dX5_look_67 rfl ?_
        refine V_iconst (v := 1) C dX5_look_69 (by decide) ?_
        refine V_aload_n C 0 dX5_look_70 rfl rfl ?_
        refine V_ga C 72 (by decide) (by decide) F_5_1 k_RX5_9 dX5_look_71 ?_
        refine V_iload C 5 dX5_look_74 rfl ?_
        refine V_callSNi (As := [.ref (G.1 73), .int x6]) (rest := [.int 1, .int x5]) C (c_X10_at (v_l X) G (by decide) (by decide) _ _ h) KV_X10_at (List.mem_of_getElem? (i := 21) rfl) rfl rfl rfl (Nat.le_of_ble_eq_true rfl) ⟨Nat.le_of_ble_eq_true rfl, Nat.le_of_ble_eq_true rfl⟩ dX5_look_76 (fun r50 S49 h => ?_)
        refine V_ishl C dX5_look_79 ?_
        refine V_ior C dX5_look_80 ?_
        refine V_topi (fun y51 ey51 => ?_)
        have h := h y51 ey51
        refine V_istore (lv' := [(0, .ref (G.1 72)), (2, .int a2), (3, .int x3), (4, .int y48), (5, .int y51), (6, .int x6)]) C [1, 2, 3, 4, 0, 5] dX5_look_81 (by decide) rfl ?_
        exact q_X5_look_83 C D hK19 hK38 _ _ _ _ _ h
set_option maxHeartbeats 4000000 in
set_option maxRecDepth 100000 in
theorem q_X5_look_19 {X : vX} {G : vG}  {post : vSt → Prop} (C : v_Cx X G cX5_look RX5 7 (v_rm 3 105)) (D : v_Rx X G (v_Qv G post) none)  {a1 : Int32} {a2 : Int32}   : ∀ (fu : Nat) (S : vSt) (x3 : Int32), p_X5_look_19 a1 a2 post fu S x3 → VJ X G S 19 [(0, .ref (G.1 72)), (2, .int a2), (3, .int x3)] [] := by
  intro fu
  induction fu with
  | zero => intro S x3 h; exact absurd h id
  | succ fu ih =>
    intro S x3 h
    have hK19 := ih
    rw [e_X5_look_19] at h
    refine V_iload_n C 2 dX5_look_19 rfl rfl ?_
    refine V_iconst (v := 1) C dX5_look_20 (by decide) ?_
    refine V_aload_n C 0 dX5_look_21 rfl rfl ?_
    refine V_gi C 72 (by decide) (by decide) F_5_2 k_RX5_19 dX5_look_22 ?_
    refine V_ishl C dX5_look_25 ?_
    refine V_icmp_ge (tgt := 148) C dX5_look_26 (by decide) (fun c => ?_) (fun c => ?_)
    · have h := h.1 c
      exact V_vret C D dX5_look_148 h
    · have h := h.2 c
      refine V_iconst (v := 0) C dX5_look_29 (by decide) ?_
      refine V_istore (lv' := [(0, .ref (G.1 72)), (2, .int a2), (3, .int x3), (4, .int 0)]) C [1, 2, 3, 0] dX5_look_30 (by decide) rfl ?_
      refine V_iconst (v := 0) C dX5_look_32 (by decide) ?_
      refine V_istore (lv' := [(0, .ref (G.1 72)), (2, .int a2), (3, .int x3), (4, .int 0), (5, .int 0)]) C [1, 2, 3, 4, 0] dX5_look_33 (by decide) rfl ?_
      refine V_iconst (v := 0) C dX5_look_35 (by decide) ?_
      refine V_istore (lv' := [(0, .ref (G.1 72)), (2, .int a2), (3, .int x3), (4, .int 0), (5, .int 0), (6, .int 0)]) C [1, 2, 3, 4, 5, 0] dX5_look_36 (by decide) rfl ?_
      obtain ⟨fu38, h⟩ := h
      exact q_X5_look_38 C D hK19 fu38 _ _ _ _ _ h
set_option maxHeartbeats 4000000 in
set_option maxRecDepth 100000 in
theorem c_X5_look (l : Launch) (G : vG)    {S : vSt} (a1 : Int32) (a2 : Int32) (post : vSt → Prop) (h : p_X5_look   S a1 a2 post) : Met l yX5_look (v_ws yX5_look cX5_look 7 none) (v_rm 3 105) (v_Pc G [.ref (G.1 72), .int a1, .int a2] S) (v_Qv G post) 0 0 (v_A G) := by
  refine v_start (by decide +kernel) (Nat.le_of_ble_eq_true rfl) (fun X hl C D => ?_)
  subst hl
  have C : v_Cx X G cX5_look RX5 7 (v_rm 3 105) := C
  show VJ X G S 0 [(0, .ref (G.1 72)), (1, .int a1), (2, .int a2)] []
  refine V_aload_n C 0 dX5_look_0 rfl rfl ?_
  refine V_iload_n C 1 dX5_look_1 rfl rfl ?_
  refine V_callVv (As := [.int a1]) (rest := []) C (c_X5_gather (v_l X) G  _ _ h) 72 5 (by decide) (by decide) (by decide) rfl KV_X5_gather k_RX5_51 rfl rfl rfl (Nat.le_of_ble_eq_true rfl) ⟨Nat.le_of_ble_eq_true rfl, Nat.le_of_ble_eq_true rfl⟩ dX5_look_2 (fun S36 h => ?_)
  refine V_aload_n C 0 dX5_look_5 rfl rfl ?_
  refine V_iconst (v := 0) C dX5_look_6 (by decide) ?_
  refine V_pi C 72 (by decide) (by decide) P_5_3 k_RX5_58 dX5_look_7 ?_
  refine V_topS (fun S37 eS37 => ?_)
  have h := h S37 eS37
  refine V_aload_n C 0 dX5_look_10 rfl rfl ?_
  refine V_sipush (v := 1023) C dX5_look_11 (by decide) ?_
  refine V_pi C 72 (by decide) (by decide) P_5_4 k_RX5_61 dX5_look_14 ?_
  refine V_topS (fun S38 eS38 => ?_)
  have h := h S38 eS38
  refine V_iconst (v := 0) C dX5_look_17 (by decide) ?_
  refine V_istore_n (lv' := [(0, .ref (G.1 72)), (1, .int a1), (2, .int a2), (3, .int 0)]) C [1, 2, 3, 0] dX5_look_18 rfl (by decide) rfl ?_
  refine V_loc (lv' := [(0, .ref (G.1 72)), (2, .int a2), (3, .int 0)]) [0, 2, 3] rfl ?_
  obtain ⟨fu19, h⟩ := h
  exact q_X5_look_19 C D  fu19 _ _ h
/-! HalfAccuser$Tape.hasRoom()Z -/
theorem dX6_hasRoom_0 : decode cX6_hasRoom 0 = .ok ((.aload_n 0), 1) := by decide +kernel
theorem dX6_hasRoom_1 : decode cX6_hasRoom 1 = .ok ((.getfield 26), 3) := by decide +kernel
theorem dX6_hasRoom_4 : decode cX6_hasRoom 4 = .ok ((.bipush 20), 2) := by decide +kernel
theorem dX6_hasRoom_6 : decode cX6_hasRoom 6 = .ok (.iadd, 1) := by decide +kernel
theorem dX6_hasRoom_7 : decode cX6_hasRoom 7 = .ok ((.sipush 900), 3) := by decide +kernel
theorem dX6_hasRoom_10 : decode cX6_hasRoom 10 = .ok ((.if_icmp .gt 7), 3) := by decide +kernel
theorem dX6_hasRoom_13 : decode cX6_hasRoom 13 = .ok ((.iconst 1), 1) := by decide +kernel
theorem dX6_hasRoom_14 : decode cX6_hasRoom 14 = .ok ((.goto 4), 3) := by decide +kernel
theorem dX6_hasRoom_17 : decode cX6_hasRoom 17 = .ok ((.iconst 0), 1) := by decide +kernel
theorem dX6_hasRoom_18 : decode cX6_hasRoom 18 = .ok (.ireturn, 1) := by decide +kernel
def p_X6_hasRoom   (S : vSt)  (post : Bool → vSt → Prop) : Prop := ((900 < ((S.1 5 1) + 20) → post false S) ∧ (¬ 900 < ((S.1 5 1) + 20) → post true S))
set_option maxHeartbeats 4000000 in
set_option maxRecDepth 100000 in
theorem c_X6_hasRoom (l : Launch) (G : vG)    {S : vSt}  (post : Bool → vSt → Prop) (h : p_X6_hasRoom   S  post) : Met l yX6_hasRoom (v_ws yX6_hasRoom cX6_hasRoom 1 (some .boolean)) (v_rm 0 40) (v_Pc G [.ref (G.1 5)] S) (v_Qz G post) 0 0 (v_A G) := by
  refine v_start (by decide +kernel) (Nat.le_of_ble_eq_true rfl) (fun X hl C D => ?_)
  subst hl
  have C : v_Cx X G cX6_hasRoom RX6 1 (v_rm 0 40) := C
  show VJ X G S 0 [(0, .ref (G.1 5))] []
  refine V_aload_n C 0 dX6_hasRoom_0 rfl rfl ?_
  refine V_gi C 5 (by decide) (by decide) F_6_1 k_RX6_26 dX6_hasRoom_1 ?_
  refine V_bipush (v := 20) C dX6_hasRoom_4 (by decide) ?_
  refine V_iadd C dX6_hasRoom_6 ?_
  refine V_sipush (v := 900) C dX6_hasRoom_7 (by decide) ?_
  refine V_icmp_gt (tgt := 17) C dX6_hasRoom_10 (by decide) (fun c => ?_) (fun c => ?_)
  · have h := h.1 c
    refine V_iconst (v := 0) C dX6_hasRoom_17 (by decide) ?_
    exact V_zret0 C D dX6_hasRoom_18 h
  · have h := h.2 c
    refine V_iconst (v := 1) C dX6_hasRoom_13 (by decide) ?_
    refine V_goto (tgt := 18) C dX6_hasRoom_14 (by decide) ?_
    exact V_zret1 C D dX6_hasRoom_18 h
/-! HalfAccuser$Tape.add(I)V -/
theorem dX6_add_0 : decode cX6_add 0 = .ok ((.bipush 24), 2) := by decide +kernel
theorem dX6_add_2 : decode cX6_add 2 = .ok ((.istore_n 2), 1) := by decide +kernel
theorem dX6_add_3 : decode cX6_add 3 = .ok ((.iload_n 2), 1) := by decide +kernel
theorem dX6_add_4 : decode cX6_add 4 = .ok ((.ifCond .lt 51), 3) := by decide +kernel
theorem dX6_add_7 : decode cX6_add 7 = .ok ((.aload_n 0), 1) := by decide +kernel
theorem dX6_add_8 : decode cX6_add 8 = .ok ((.getfield 26), 3) := by decide +kernel
theorem dX6_add_11 : decode cX6_add 11 = .ok ((.ifCond .lt 38), 3) := by decide +kernel
theorem dX6_add_14 : decode cX6_add 14 = .ok ((.aload_n 0), 1) := by decide +kernel
theorem dX6_add_15 : decode cX6_add 15 = .ok ((.getfield 26), 3) := by decide +kernel
theorem dX6_add_18 : decode cX6_add 18 = .ok ((.aload_n 0), 1) := by decide +kernel
theorem dX6_add_19 : decode cX6_add 19 = .ok ((.getfield 11), 3) := by decide +kernel
theorem dX6_add_22 : decode cX6_add 22 = .ok (.arraylength, 1) := by decide +kernel
theorem dX6_add_23 : decode cX6_add 23 = .ok ((.if_icmp .ge 26), 3) := by decide +kernel
theorem dX6_add_26 : decode cX6_add 26 = .ok ((.aload_n 0), 1) := by decide +kernel
theorem dX6_add_27 : decode cX6_add 27 = .ok ((.getfield 11), 3) := by decide +kernel
theorem dX6_add_30 : decode cX6_add 30 = .ok ((.aload_n 0), 1) := by decide +kernel
theorem dX6_add_31 : decode cX6_add 31 = .ok ((.getfield 26), 3) := by decide +kernel
theorem dX6_add_34 : decode cX6_add 34 = .ok ((.iload_n 1), 1) := by decide +kernel
theorem dX6_add_35 : decode cX6_add 35 = .ok ((.iload_n 2), 1) := by decide +kernel
theorem dX6_add_36 : decode cX6_add 36 = .ok (.ishr, 1) := by decide +kernel
theorem dX6_add_37 : decode cX6_add 37 = .ok (.i2b, 1) := by decide +kernel
theorem dX6_add_38 : decode cX6_add 38 = .ok (.bastore, 1) := by decide +kernel
theorem dX6_add_39 : decode cX6_add 39 = .ok ((.aload_n 0), 1) := by decide +kernel
theorem dX6_add_40 : decode cX6_add 40 = .ok (.dup, 1) := by decide +kernel
theorem dX6_add_41 : decode cX6_add 41 = .ok ((.getfield 26), 3) := by decide +kernel
theorem dX6_add_44 : decode cX6_add 44 = .ok ((.iconst 1), 1) := by decide +kernel
theorem dX6_add_45 : decode cX6_add 45 = .ok (.iadd, 1) := by decide +kernel
theorem dX6_add_46 : decode cX6_add 46 = .ok ((.putfield 26), 3) := by decide +kernel
theorem dX6_add_49 : decode cX6_add 49 = .ok ((.iinc 2 (-8)), 3) := by decide +kernel
theorem dX6_add_52 : decode cX6_add 52 = .ok ((.goto (-49)), 3) := by decide +kernel
theorem dX6_add_55 : decode cX6_add 55 = .ok (.return_, 1) := by decide +kernel
def p_X6_add_49  (a1 : Int32)  (K3 : vSt → Int32 → Prop) (post : vSt → Prop) (S : vSt) (x2 : Int32) : Prop := ∀ y7 : Int32, y7 = x2 + (-8) → K3 S y7
def p_X6_add_3  (a1 : Int32)   (post : vSt → Prop) : Nat → vSt → Int32 → Prop
  | 0 => fun _ _ => False
  | fu3 + 1 => fun S x2 => ((x2 < 0 → post S) ∧ (¬ x2 < 0 → (((S.1 5 1) < 0 → p_X6_add_49 a1 (p_X6_add_3 a1 post fu3) post S x2) ∧ (¬ (S.1 5 1) < 0 → ((900 ≤ (S.1 5 1) → p_X6_add_49 a1 (p_X6_add_3 a1 post fu3) post S x2) ∧ (¬ 900 ≤ (S.1 5 1) → (vp_in (S.1 5 1) 900 ∧ ∀ S7, S7 = v_si S 6 (Int32.toNatClampNeg (S.1 5 1)) (vp_nar .byte ((Int32.toInt8 (a1 >>> (x2 &&& 31))).toInt32)) → ∀ S8, S8 = v_si S7 5 1 ((S7.1 5 1) + 1) → p_X6_add_49 a1 (p_X6_add_3 a1 post fu3) post S8 x2)))))))
theorem e_X6_add_3  (a1 : Int32)   (post : vSt → Prop) (fu3 : Nat) (S : vSt) (x2 : Int32) : p_X6_add_3 a1 post (fu3 + 1) S x2 = (((x2 < 0 → post S) ∧ (¬ x2 < 0 → (((S.1 5 1) < 0 → p_X6_add_49 a1 (p_X6_add_3 a1 post fu3) post S x2) ∧ (¬ (S.1 5 1) < 0 → ((900 ≤ (S.1 5 1) → p_X6_add_49 a1 (p_X6_add_3 a1 post fu3) post S x2) ∧ (¬ 900 ≤ (S.1 5 1) → (vp_in (S.1 5 1) 900 ∧ ∀ S7, S7 = v_si S 6 (Int32.toNatClampNeg (S.1 5 1)) (vp_nar .byte ((Int32.toInt8 (a1 >>> (x2 &&& 31))).toInt32)) → ∀ S8, S8 = v_si S7 5 1 ((S7.1 5 1) + 1) → p_X6_add_49 a1 (p_X6_add_3 a1 post fu3) post S8 x2)))))))) := rfl
def p_X6_add   (S : vSt) (a1 : Int32) (post : vSt → Prop) : Prop := ∃ fu3, p_X6_add_3 a1 post fu3 S 24
set_option maxHeartbeats 4000000 in
set_option maxRecDepth 100000 in
theorem q_X6_add_49 {X : vX} {G : vG}  {post : vSt → Prop} (C : v_Cx X G cX6_add RX6 3 (v_rm 0 40)) (D : v_Rx X G (v_Qv G post) none)  {a1 : Int32}  {K3 : vSt → Int32 → Prop} (hK3 : ∀ S x2, K3 S x2 → VJ X G S 3 [(0, .ref (G.1 5)), (1, .int a1), (2, .int x2)] []) : ∀ (S : vSt) (x2 : Int32), p_X6_add_49 a1 K3 post S x2 → VJ X G S 49 [(0, .ref (G.1 5)), (1, .int a1), (2, .int x2)] [] := by
  intro S x2 h
  obtain ⟨y7, ey7⟩ : ∃ z : Int32, z = x2 + (-8) := ⟨_, rfl⟩
  have h := h y7 ey7
  refine V_iinc (lv' := [(0, .ref (G.1 5)), (1, .int a1), (2, .int y7)]) C 2 [1, 2, 0] y7 dX6_add_49 rfl (by rw [ey7]; rfl) (by decide) rfl ?_
  refine V_goto (tgt := 3) C dX6_add_52 (by decide) ?_
  exact hK3 _ _ h
set_option maxHeartbeats 4000000 in
set_option maxRecDepth 100000 in
theorem q_X6_add_3 {X : vX} {G : vG}  {post : vSt → Prop} (C : v_Cx X G cX6_add RX6 3 (v_rm 0 40)) (D : v_Rx X G (v_Qv G post) none)  {a1 : Int32}   : ∀ (fu : Nat) (S : vSt) (x2 : Int32), p_X6_add_3 a1 post fu S x2 → VJ X G S 3 [(0, .ref (G.1 5)), (1, .int a1), (2, .int x2)] [] := by
  intro fu
  induction fu with
  | zero => intro S x2 h; exact absurd h id
  | succ fu ih =>
    intro S x2 h
    have hK3 := ih
    rw [e_X6_add_3] at h
    refine V_iload_n C 2 dX6_add_3 rfl rfl ?_
    refine V_if_lt (tgt := 55) C dX6_add_4 (by decide) (fun c => ?_) (fun c => ?_)
    · have h := h.1 c
      exact V_vret C D dX6_add_55 h
    · have h := h.2 c
      refine V_aload_n C 0 dX6_add_7 rfl rfl ?_
      refine V_gi C 5 (by decide) (by decide) F_6_1 k_RX6_26 dX6_add_8 ?_
      refine V_if_lt (tgt := 49) C dX6_add_11 (by decide) (fun c => ?_) (fun c => ?_)
      · have h := h.1 c
        exact q_X6_add_49 C D hK3 _ _ h
      · have h := h.2 c
        refine V_aload_n C 0 dX6_add_14 rfl rfl ?_
        refine V_gi C 5 (by decide) (by decide) F_6_1 k_RX6_26 dX6_add_15 ?_
        refine V_aload_n C 0 dX6_add_18 rfl rfl ?_
        refine V_ga C 5 (by decide) (by decide) F_6_0 k_RX6_11 dX6_add_19 ?_
        refine V_alen C 6 900 (by decide) (Or.inl (by decide)) dX6_add_22 ?_
        refine V_icmp_ge (tgt := 49) C dX6_add_23 (by decide) (fun c => ?_) (fun c => ?_)
        · have h := h.1 c
          exact q_X6_add_49 C D hK3 _ _ h
        · have h := h.2 c
          refine V_aload_n C 0 dX6_add_26 rfl rfl ?_
          refine V_ga C 5 (by decide) (by decide) F_6_0 k_RX6_11 dX6_add_27 ?_
          refine V_aload_n C 0 dX6_add_30 rfl rfl ?_
          refine V_gi C 5 (by decide) (by decide) F_6_1 k_RX6_26 dX6_add_31 ?_
          refine V_iload_n C 1 dX6_add_34 rfl rfl ?_
          refine V_iload_n C 2 dX6_add_35 rfl rfl ?_
          refine V_ishr C dX6_add_36 ?_
          refine V_i2b C dX6_add_37 ?_
          obtain ⟨hi, h⟩ := h
          refine V_bast C 6 900 (by decide) (by decide) hi dX6_add_38 ?_
          refine V_topS (fun S7 eS7 => ?_)
          have h := h S7 eS7
          refine V_aload_n C 0 dX6_add_39 rfl rfl ?_
          refine V_dup C dX6_add_40 rfl ?_
          refine V_gi C 5 (by decide) (by decide) F_6_1 k_RX6_26 dX6_add_41 ?_
          refine V_iconst (v := 1) C dX6_add_44 (by decide) ?_
          refine V_iadd C dX6_add_45 ?_
          refine V_pi C 5 (by decide) (by decide) P_6_1 k_RX6_26 dX6_add_46 ?_
          refine V_topS (fun S8 eS8 => ?_)
          have h := h S8 eS8
          exact q_X6_add_49 C D hK3 _ _ h
set_option maxHeartbeats 4000000 in
set_option maxRecDepth 100000 in
theorem c_X6_add (l : Launch) (G : vG)    {S : vSt} (a1 : Int32) (post : vSt → Prop) (h : p_X6_add   S a1 post) : Met l yX6_add (v_ws yX6_add cX6_add 3 none) (v_rm 0 40) (v_Pc G [.ref (G.1 5), .int a1] S) (v_Qv G post) 0 0 (v_A G) := by
  refine v_start (by decide +kernel) (Nat.le_of_ble_eq_true rfl) (fun X hl C D => ?_)
  subst hl
  have C : v_Cx X G cX6_add RX6 3 (v_rm 0 40) := C
  show VJ X G S 0 [(0, .ref (G.1 5)), (1, .int a1)] []
  refine V_bipush (v := 24) C dX6_add_0 (by decide) ?_
  refine V_istore_n (lv' := [(0, .ref (G.1 5)), (1, .int a1), (2, .int 24)]) C [1, 2, 0] dX6_add_2 rfl (by decide) rfl ?_
  obtain ⟨fu3, h⟩ := h
  exact q_X6_add_3 C D  fu3 _ _ h
/-! HalfAccuser$Tape.byteAt(I)I -/
theorem dX6_byteAt_0 : decode cX6_byteAt 0 = .ok ((.iload_n 1), 1) := by decide +kernel
theorem dX6_byteAt_1 : decode cX6_byteAt 1 = .ok ((.ifCond .lt 25), 3) := by decide +kernel
theorem dX6_byteAt_4 : decode cX6_byteAt 4 = .ok ((.iload_n 1), 1) := by decide +kernel
theorem dX6_byteAt_5 : decode cX6_byteAt 5 = .ok ((.aload_n 0), 1) := by decide +kernel
theorem dX6_byteAt_6 : decode cX6_byteAt 6 = .ok ((.getfield 11), 3) := by decide +kernel
theorem dX6_byteAt_9 : decode cX6_byteAt 9 = .ok (.arraylength, 1) := by decide +kernel
theorem dX6_byteAt_10 : decode cX6_byteAt 10 = .ok ((.if_icmp .ge 16), 3) := by decide +kernel
theorem dX6_byteAt_13 : decode cX6_byteAt 13 = .ok ((.aload_n 0), 1) := by decide +kernel
theorem dX6_byteAt_14 : decode cX6_byteAt 14 = .ok ((.getfield 11), 3) := by decide +kernel
theorem dX6_byteAt_17 : decode cX6_byteAt 17 = .ok ((.iload_n 1), 1) := by decide +kernel
theorem dX6_byteAt_18 : decode cX6_byteAt 18 = .ok (.baload, 1) := by decide +kernel
theorem dX6_byteAt_19 : decode cX6_byteAt 19 = .ok ((.sipush 255), 3) := by decide +kernel
theorem dX6_byteAt_22 : decode cX6_byteAt 22 = .ok (.iand, 1) := by decide +kernel
theorem dX6_byteAt_23 : decode cX6_byteAt 23 = .ok ((.goto 4), 3) := by decide +kernel
theorem dX6_byteAt_26 : decode cX6_byteAt 26 = .ok ((.iconst 0), 1) := by decide +kernel
theorem dX6_byteAt_27 : decode cX6_byteAt 27 = .ok (.ireturn, 1) := by decide +kernel
def p_X6_byteAt   (S : vSt) (a1 : Int32) (post : Int32 → vSt → Prop) : Prop := ((a1 < 0 → post 0 S) ∧ (¬ a1 < 0 → ((900 ≤ a1 → post 0 S) ∧ (¬ 900 ≤ a1 → (vp_in a1 900 ∧ post ((S.1 6 (Int32.toNatClampNeg a1)) &&& 255) S)))))
set_option maxHeartbeats 4000000 in
set_option maxRecDepth 100000 in
theorem c_X6_byteAt (l : Launch) (G : vG)    {S : vSt} (a1 : Int32) (post : Int32 → vSt → Prop) (h : p_X6_byteAt   S a1 post) : Met l yX6_byteAt (v_ws yX6_byteAt cX6_byteAt 2 (some .int)) (v_rm 0 40) (v_Pc G [.ref (G.1 5), .int a1] S) (v_Qi G post) 0 0 (v_A G) := by
  refine v_start (by decide +kernel) (Nat.le_of_ble_eq_true rfl) (fun X hl C D => ?_)
  subst hl
  have C : v_Cx X G cX6_byteAt RX6 2 (v_rm 0 40) := C
  show VJ X G S 0 [(0, .ref (G.1 5)), (1, .int a1)] []
  refine V_iload_n C 1 dX6_byteAt_0 rfl rfl ?_
  refine V_if_lt (tgt := 26) C dX6_byteAt_1 (by decide) (fun c => ?_) (fun c => ?_)
  · have h := h.1 c
    refine V_iconst (v := 0) C dX6_byteAt_26 (by decide) ?_
    exact V_iret C D dX6_byteAt_27 h
  · have h := h.2 c
    refine V_iload_n C 1 dX6_byteAt_4 rfl rfl ?_
    refine V_aload_n C 0 dX6_byteAt_5 rfl rfl ?_
    refine V_ga C 5 (by decide) (by decide) F_6_0 k_RX6_11 dX6_byteAt_6 ?_
    refine V_alen C 6 900 (by decide) (Or.inl (by decide)) dX6_byteAt_9 ?_
    refine V_icmp_ge (tgt := 26) C dX6_byteAt_10 (by decide) (fun c => ?_) (fun c => ?_)
    · have h := h.1 c
      refine V_iconst (v := 0) C dX6_byteAt_26 (by decide) ?_
      exact V_iret C D dX6_byteAt_27 h
    · have h := h.2 c
      refine V_aload_n C 0 dX6_byteAt_13 rfl rfl ?_
      refine V_ga C 5 (by decide) (by decide) F_6_0 k_RX6_11 dX6_byteAt_14 ?_
      refine V_iload_n C 1 dX6_byteAt_17 rfl rfl ?_
      obtain ⟨hi, h⟩ := h
      refine V_bald C 6 900 (by decide) (by decide) hi dX6_byteAt_18 ?_
      refine V_sipush (v := 255) C dX6_byteAt_19 (by decide) ?_
      refine V_iand C dX6_byteAt_22 ?_
      refine V_goto (tgt := 27) C dX6_byteAt_23 (by decide) ?_
      exact V_iret C D dX6_byteAt_27 h
/-! HalfAccuser$Tape.addToken(IIJ)V -/
theorem dX6_addToken_0 : decode cX6_addToken 0 = .ok ((.aload_n 0), 1) := by decide +kernel
theorem dX6_addToken_1 : decode cX6_addToken 1 = .ok ((.getfield 15), 3) := by decide +kernel
theorem dX6_addToken_4 : decode cX6_addToken 4 = .ok ((.aload_n 0), 1) := by decide +kernel
theorem dX6_addToken_5 : decode cX6_addToken 5 = .ok ((.getfield 30), 3) := by decide +kernel
theorem dX6_addToken_8 : decode cX6_addToken 8 = .ok ((.iload_n 1), 1) := by decide +kernel
theorem dX6_addToken_9 : decode cX6_addToken 9 = .ok ((.invokestatic 65), 3) := by decide +kernel
theorem dX6_addToken_12 : decode cX6_addToken 12 = .ok ((.aload_n 0), 1) := by decide +kernel
theorem dX6_addToken_13 : decode cX6_addToken 13 = .ok ((.getfield 19), 3) := by decide +kernel
theorem dX6_addToken_16 : decode cX6_addToken 16 = .ok ((.aload_n 0), 1) := by decide +kernel
theorem dX6_addToken_17 : decode cX6_addToken 17 = .ok ((.getfield 30), 3) := by decide +kernel
theorem dX6_addToken_20 : decode cX6_addToken 20 = .ok ((.iload_n 2), 1) := by decide +kernel
theorem dX6_addToken_21 : decode cX6_addToken 21 = .ok ((.invokestatic 65), 3) := by decide +kernel
theorem dX6_addToken_24 : decode cX6_addToken 24 = .ok ((.aload_n 0), 1) := by decide +kernel
theorem dX6_addToken_25 : decode cX6_addToken 25 = .ok ((.getfield 22), 3) := by decide +kernel
theorem dX6_addToken_28 : decode cX6_addToken 28 = .ok ((.aload_n 0), 1) := by decide +kernel
theorem dX6_addToken_29 : decode cX6_addToken 29 = .ok ((.getfield 30), 3) := by decide +kernel
theorem dX6_addToken_32 : decode cX6_addToken 32 = .ok ((.lload_n 3), 1) := by decide +kernel
theorem dX6_addToken_33 : decode cX6_addToken 33 = .ok ((.invokestatic 69), 3) := by decide +kernel
theorem dX6_addToken_36 : decode cX6_addToken 36 = .ok ((.aload_n 0), 1) := by decide +kernel
theorem dX6_addToken_37 : decode cX6_addToken 37 = .ok (.dup, 1) := by decide +kernel
theorem dX6_addToken_38 : decode cX6_addToken 38 = .ok ((.getfield 30), 3) := by decide +kernel
theorem dX6_addToken_41 : decode cX6_addToken 41 = .ok ((.iconst 1), 1) := by decide +kernel
theorem dX6_addToken_42 : decode cX6_addToken 42 = .ok (.iadd, 1) := by decide +kernel
theorem dX6_addToken_43 : decode cX6_addToken 43 = .ok ((.putfield 30), 3) := by decide +kernel
theorem dX6_addToken_46 : decode cX6_addToken 46 = .ok (.return_, 1) := by decide +kernel
def p_X6_addToken   (S : vSt) (a1 : Int32) (a2 : Int32) (a3 : Int64) (post : vSt → Prop) : Prop := p_X10_put 7 901 S (S.1 5 5) a1 (fun S5 => p_X10_put 8 901 S5 (S5.1 5 5) a2 (fun S6 => p_X10_put_ 9 901 S6 (S6.1 5 5) a3 (fun S7 => ∀ S8, S8 = v_si S7 5 5 ((S7.1 5 5) + 1) → post S8)))
set_option maxHeartbeats 4000000 in
set_option maxRecDepth 100000 in
theorem c_X6_addToken (l : Launch) (G : vG)    {S : vSt} (a1 : Int32) (a2 : Int32) (a3 : Int64) (post : vSt → Prop) (h : p_X6_addToken   S a1 a2 a3 post) : Met l yX6_addToken (v_ws yX6_addToken cX6_addToken 5 none) (v_rm 1 63) (v_Pc G [.ref (G.1 5), .int a1, .int a2, .long a3] S) (v_Qv G post) 0 0 (v_A G) := by
  refine v_start (by decide +kernel) (Nat.le_of_ble_eq_true rfl) (fun X hl C D => ?_)
  subst hl
  have C : v_Cx X G cX6_addToken RX6 5 (v_rm 1 63) := C
  show VJ X G S 0 [(0, .ref (G.1 5)), (1, .int a1), (2, .int a2), (3, .long a3)] []
  refine V_aload_n C 0 dX6_addToken_0 rfl rfl ?_
  refine V_ga C 5 (by decide) (by decide) F_6_2 k_RX6_15 dX6_addToken_1 ?_
  refine V_aload_n C 0 dX6_addToken_4 rfl rfl ?_
  refine V_gi C 5 (by decide) (by decide) F_6_5 k_RX6_30 dX6_addToken_5 ?_
  refine V_iload_n C 1 dX6_addToken_8 rfl rfl ?_
  refine V_callSNv (As := [.ref (G.1 7), .int (S.1 5 5), .int a1]) (rest := []) C (c_X10_put (v_l X) G (by decide) (by decide) _ _ _ h) KV_X10_put (List.mem_of_getElem? (i := 24) rfl) rfl rfl rfl (Nat.le_of_ble_eq_true rfl) ⟨Nat.le_of_ble_eq_true rfl, Nat.le_of_ble_eq_true rfl⟩ dX6_addToken_9 (fun S5 h => ?_)
  refine V_aload_n C 0 dX6_addToken_12 rfl rfl ?_
  refine V_ga C 5 (by decide) (by decide) F_6_3 k_RX6_19 dX6_addToken_13 ?_
  refine V_aload_n C 0 dX6_addToken_16 rfl rfl ?_
  refine V_gi C 5 (by decide) (by decide) F_6_5 k_RX6_30 dX6_addToken_17 ?_
  refine V_iload_n C 2 dX6_addToken_20 rfl rfl ?_
  refine V_callSNv (As := [.ref (G.1 8), .int (S5.1 5 5), .int a2]) (rest := []) C (c_X10_put (v_l X) G (by decide) (by decide) _ _ _ h) KV_X10_put (List.mem_of_getElem? (i := 24) rfl) rfl rfl rfl (Nat.le_of_ble_eq_true rfl) ⟨Nat.le_of_ble_eq_true rfl, Nat.le_of_ble_eq_true rfl⟩ dX6_addToken_21 (fun S6 h => ?_)
  refine V_aload_n C 0 dX6_addToken_24 rfl rfl ?_
  refine V_ga C 5 (by decide) (by decide) F_6_4 k_RX6_22 dX6_addToken_25 ?_
  refine V_aload_n C 0 dX6_addToken_28 rfl rfl ?_
  refine V_gi C 5 (by decide) (by decide) F_6_5 k_RX6_30 dX6_addToken_29 ?_
  refine V_lload_n C 3 dX6_addToken_32 rfl rfl ?_
  refine V_callSNv (As := [.ref (G.1 9), .int (S6.1 5 5), .long a3]) (rest := []) C (c_X10_put_ (v_l X) G (by decide) (by decide) _ _ _ h) KV_X10_put_ (List.mem_of_getElem? (i := 25) rfl) rfl rfl rfl (Nat.le_of_ble_eq_true rfl) ⟨Nat.le_of_ble_eq_true rfl, Nat.le_of_ble_eq_true rfl⟩ dX6_addToken_33 (fun S7 h => ?_)
  refine V_aload_n C 0 dX6_addToken_36 rfl rfl ?_
  refine V_dup C dX6_addToken_37 rfl ?_
  refine V_gi C 5 (by decide) (by decide) F_6_5 k_RX6_30 dX6_addToken_38 ?_
  refine V_iconst (v := 1) C dX6_addToken_41 (by decide) ?_
  refine V_iadd C dX6_addToken_42 ?_
  refine V_pi C 5 (by decide) (by decide) P_6_5 k_RX6_30 dX6_addToken_43 ?_
  refine V_topS (fun S8 eS8 => ?_)
  have h := h S8 eS8
  exact V_vret C D dX6_addToken_46 h
/-! HalfAccuser$Tape.addNumber(II)V -/
theorem dX6_addNumber_0 : decode cX6_addNumber 0 = .ok ((.iload_n 2), 1) := by decide +kernel
theorem dX6_addNumber_1 : decode cX6_addNumber 1 = .ok ((.iload_n 1), 1) := by decide +kernel
theorem dX6_addNumber_2 : decode cX6_addNumber 2 = .ok (.isub, 1) := by decide +kernel
theorem dX6_addNumber_3 : decode cX6_addNumber 3 = .ok ((.iconst 4), 1) := by decide +kernel
theorem dX6_addNumber_4 : decode cX6_addNumber 4 = .ok ((.if_icmp .le 11), 3) := by decide +kernel
theorem dX6_addNumber_7 : decode cX6_addNumber 7 = .ok ((.aload_n 0), 1) := by decide +kernel
theorem dX6_addNumber_8 : decode cX6_addNumber 8 = .ok ((.iconst 1), 1) := by decide +kernel
theorem dX6_addNumber_9 : decode cX6_addNumber 9 = .ok ((.iload_n 1), 1) := by decide +kernel
theorem dX6_addNumber_10 : decode cX6_addNumber 10 = .ok ((.lconst 0), 1) := by decide +kernel
theorem dX6_addNumber_11 : decode cX6_addNumber 11 = .ok ((.invokevirtual 55), 3) := by decide +kernel
theorem dX6_addNumber_14 : decode cX6_addNumber 14 = .ok (.return_, 1) := by decide +kernel
theorem dX6_addNumber_15 : decode cX6_addNumber 15 = .ok ((.iconst 0), 1) := by decide +kernel
theorem dX6_addNumber_16 : decode cX6_addNumber 16 = .ok ((.istore_n 3), 1) := by decide +kernel
theorem dX6_addNumber_17 : decode cX6_addNumber 17 = .ok ((.iload_n 1), 1) := by decide +kernel
theorem dX6_addNumber_18 : decode cX6_addNumber 18 = .ok ((.istore 4), 2) := by decide +kernel
theorem dX6_addNumber_20 : decode cX6_addNumber 20 = .ok ((.iload 4), 2) := by decide +kernel
theorem dX6_addNumber_22 : decode cX6_addNumber 22 = .ok ((.iload_n 2), 1) := by decide +kernel
theorem dX6_addNumber_23 : decode cX6_addNumber 23 = .ok ((.if_icmp .ge 24), 3) := by decide +kernel
theorem dX6_addNumber_26 : decode cX6_addNumber 26 = .ok ((.iload_n 3), 1) := by decide +kernel
theorem dX6_addNumber_27 : decode cX6_addNumber 27 = .ok ((.bipush 10), 2) := by decide +kernel
theorem dX6_addNumber_29 : decode cX6_addNumber 29 = .ok (.imul, 1) := by decide +kernel
theorem dX6_addNumber_30 : decode cX6_addNumber 30 = .ok ((.aload_n 0), 1) := by decide +kernel
theorem dX6_addNumber_31 : decode cX6_addNumber 31 = .ok ((.iload 4), 2) := by decide +kernel
theorem dX6_addNumber_33 : decode cX6_addNumber 33 = .ok ((.invokevirtual 33), 3) := by decide +kernel
theorem dX6_addNumber_36 : decode cX6_addNumber 36 = .ok (.iadd, 1) := by decide +kernel
theorem dX6_addNumber_37 : decode cX6_addNumber 37 = .ok ((.bipush 48), 2) := by decide +kernel
theorem dX6_addNumber_39 : decode cX6_addNumber 39 = .ok (.isub, 1) := by decide +kernel
theorem dX6_addNumber_40 : decode cX6_addNumber 40 = .ok ((.istore_n 3), 1) := by decide +kernel
theorem dX6_addNumber_41 : decode cX6_addNumber 41 = .ok ((.iinc 4 1), 3) := by decide +kernel
theorem dX6_addNumber_44 : decode cX6_addNumber 44 = .ok ((.goto (-24)), 3) := by decide +kernel
theorem dX6_addNumber_47 : decode cX6_addNumber 47 = .ok ((.aload_n 0), 1) := by decide +kernel
theorem dX6_addNumber_48 : decode cX6_addNumber 48 = .ok ((.iconst 5), 1) := by decide +kernel
theorem dX6_addNumber_49 : decode cX6_addNumber 49 = .ok ((.iload_n 1), 1) := by decide +kernel
theorem dX6_addNumber_50 : decode cX6_addNumber 50 = .ok ((.iload_n 3), 1) := by decide +kernel
theorem dX6_addNumber_51 : decode cX6_addNumber 51 = .ok (.i2l, 1) := by decide +kernel
theorem dX6_addNumber_52 : decode cX6_addNumber 52 = .ok ((.invokevirtual 55), 3) := by decide +kernel
theorem dX6_addNumber_55 : decode cX6_addNumber 55 = .ok (.return_, 1) := by decide +kernel
def p_X6_addNumber_20  (a1 : Int32) (a2 : Int32)   (post : vSt → Prop) : Nat → vSt → Int32 → Int32 → Prop
  | 0 => fun _ _ _ => False
  | fu20 + 1 => fun S x3 x4 => ((a2 ≤ x4 → p_X6_addToken  S 5 a1 (Int32.toInt64 x3) (fun S12 => post S12)) ∧ (¬ a2 ≤ x4 → p_X6_byteAt  S x4 (fun r14 S13 => ∀ y15 : Int32, y15 = (((x3 * 10) + r14) - 48) → ∀ y16 : Int32, y16 = x4 + 1 → (p_X6_addNumber_20 a1 a2 post fu20) S13 y15 y16)))
theorem e_X6_addNumber_20  (a1 : Int32) (a2 : Int32)   (post : vSt → Prop) (fu20 : Nat) (S : vSt) (x3 : Int32) (x4 : Int32) : p_X6_addNumber_20 a1 a2 post (fu20 + 1) S x3 x4 = (((a2 ≤ x4 → p_X6_addToken  S 5 a1 (Int32.toInt64 x3) (fun S12 => post S12)) ∧ (¬ a2 ≤ x4 → p_X6_byteAt  S x4 (fun r14 S13 => ∀ y15 : Int32, y15 = (((x3 * 10) + r14) - 48) → ∀ y16 : Int32, y16 = x4 + 1 → (p_X6_addNumber_20 a1 a2 post fu20) S13 y15 y16)))) := rfl
def p_X6_addNumber   (S : vSt) (a1 : Int32) (a2 : Int32) (post : vSt → Prop) : Prop := (((a2 - a1) ≤ 4 → ∃ fu20, p_X6_addNumber_20 a1 a2 post fu20 S 0 a1) ∧ (¬ (a2 - a1) ≤ 4 → p_X6_addToken  S 1 a1 0 (fun S12 => post S12)))
set_option maxHeartbeats 4000000 in
set_option maxRecDepth 100000 in
theorem q_X6_addNumber_20 {X : vX} {G : vG}  {post : vSt → Prop} (C : v_Cx X G cX6_addNumber RX6 5 (v_rm 2 87)) (D : v_Rx X G (v_Qv G post) none)  {a1 : Int32} {a2 : Int32}   : ∀ (fu : Nat) (S : vSt) (x3 : Int32) (x4 : Int32), p_X6_addNumber_20 a1 a2 post fu S x3 x4 → VJ X G S 20 [(0, .ref (G.1 5)), (1, .int a1), (2, .int a2), (3, .int x3), (4, .int x4)] [] := by
  intro fu
  induction fu with
  | zero => intro S x3 x4 h; exact absurd h id
  | succ fu ih =>
    intro S x3 x4 h
    have hK20 := ih
    rw [e_X6_addNumber_20] at h
    refine V_iload C 4 dX6_addNumber_20 rfl ?_
    refine V_iload_n C 2 dX6_addNumber_22 rfl rfl ?_
    refine V_icmp_ge (tgt := 47) C dX6_addNumber_23 (by decide) (fun c => ?_) (fun c => ?_)
    · have h := h.1 c
      refine V_aload_n C 0 dX6_addNumber_47 rfl rfl ?_
      refine V_iconst (v := 5) C dX6_addNumber_48 (by decide) ?_
      refine V_iload_n C 1 dX6_addNumber_49 rfl rfl ?_
      refine V_iload_n C 3 dX6_addNumber_50 rfl rfl ?_
      refine V_i2l C dX6_addNumber_51 ?_
      refine V_callVv (As := [.int 5, .int a1, .long (Int32.toInt64 x3)]) (rest := []) C (c_X6_addToken (v_l X) G  _ _ _ _ h) 5 6 (by decide) (by decide) (by decide) rfl KV_X6_addToken k_RX6_55 rfl rfl rfl (Nat.le_of_ble_eq_true rfl) ⟨Nat.le_of_ble_eq_true rfl, Nat.le_of_ble_eq_true rfl⟩ dX6_addNumber_52 (fun S12 h => ?_)
      exact V_vret C D dX6_addNumber_55 h
    · have h := h.2 c
      refine V_iload_n C 3 dX6_addNumber_26 rfl rfl ?_
      refine V_bipush (v := 10) C dX6_addNumber_27 (by decide) ?_
      refine V_imul C dX6_addNumber_29 ?_
      refine V_aload_n C 0 dX6_addNumber_30 rfl rfl ?_
      refine V_iload C 4 dX6_addNumber_31 rfl ?_
      refine V_callVi (As := [.int x4]) (rest := [.int (x3 * 10)]) C (c_X6_byteAt (v_l X) G  _ _ h) 5 6 (by decide) (by decide) (by decide) rfl KV_X6_byteAt k_RX6_33 rfl rfl rfl (Nat.le_of_ble_eq_true rfl) ⟨Nat.le_of_ble_eq_true rfl, Nat.le_of_ble_eq_true rfl⟩ dX6_addNumber_33 (fun r14 S13 h => ?_)
      refine V_iadd C dX6_addNumber_36 ?_
      refine V_bipush (v := 48) C dX6_addNumber_37 (by decide) ?_
      refine V_isub C dX6_addNumber_39 ?_
      refine V_topi (fun y15 ey15 => ?_)
      have h := h y15 ey15
      refine V_istore_n (lv' := [(0, .ref (G.1 5)), (1, .int a1), (2, .int a2), (3, .int y15), (4, .int x4)]) C [1, 2, 3, 0, 4] dX6_addNumber_40 rfl (by decide) rfl ?_
      obtain ⟨y16, ey16⟩ : ∃ z : Int32, z = x4 + 1 := ⟨_, rfl⟩
      have h := h y16 ey16
      refine V_iinc (lv' := [(0, .ref (G.1 5)), (1, .int a1), (2, .int a2), (3, .int y15), (4, .int y16)]) C 4 [1, 2, 3, 4, 0] y16 dX6_addNumber_41 rfl (by rw [ey16]; rfl) (by decide) rfl ?_
      refine V_goto (tgt := 20) C dX6_addNumber_44 (by decide) ?_
      exact hK20 _ _ _ h
set_option maxHeartbeats 4000000 in
set_option maxRecDepth 100000 in
theorem c_X6_addNumber (l : Launch) (G : vG)    {S : vSt} (a1 : Int32) (a2 : Int32) (post : vSt → Prop) (h : p_X6_addNumber   S a1 a2 post) : Met l yX6_addNumber (v_ws yX6_addNumber cX6_addNumber 5 none) (v_rm 2 87) (v_Pc G [.ref (G.1 5), .int a1, .int a2] S) (v_Qv G post) 0 0 (v_A G) := by
  refine v_start (by decide +kernel) (Nat.le_of_ble_eq_true rfl) (fun X hl C D => ?_)
  subst hl
  have C : v_Cx X G cX6_addNumber RX6 5 (v_rm 2 87) := C
  show VJ X G S 0 [(0, .ref (G.1 5)), (1, .int a1), (2, .int a2)] []
  refine V_iload_n C 2 dX6_addNumber_0 rfl rfl ?_
  refine V_iload_n C 1 dX6_addNumber_1 rfl rfl ?_
  refine V_isub C dX6_addNumber_2 ?_
  refine V_iconst (v := 4) C dX6_addNumber_3 (by decide) ?_
  refine V_icmp_le (tgt := 15) C dX6_addNumber_4 (by decide) (fun c => ?_) (fun c => ?_)
  · have h := h.1 c
    refine V_iconst (v := 0) C dX6_addNumber_15 (by decide) ?_
    refine V_istore_n (lv' := [(0, .ref (G.1 5)), (1, .int a1), (2, .int a2), (3, .int 0)]) C [1, 2, 3, 0] dX6_addNumber_16 rfl (by decide) rfl ?_
    refine V_iload_n C 1 dX6_addNumber_17 rfl rfl ?_
    refine V_istore (lv' := [(0, .ref (G.1 5)), (1, .int a1), (2, .int a2), (3, .int 0), (4, .int a1)]) C [1, 2, 3, 4, 0] dX6_addNumber_18 (by decide) rfl ?_
    obtain ⟨fu20, h⟩ := h
    exact q_X6_addNumber_20 C D  fu20 _ _ _ h
  · have h := h.2 c
    refine V_aload_n C 0 dX6_addNumber_7 rfl rfl ?_
    refine V_iconst (v := 1) C dX6_addNumber_8 (by decide) ?_
    refine V_iload_n C 1 dX6_addNumber_9 rfl rfl ?_
    refine V_lconst (v := 0) C dX6_addNumber_10 (by decide) ?_
    refine V_callVv (As := [.int 1, .int a1, .long 0]) (rest := []) C (c_X6_addToken (v_l X) G  _ _ _ _ h) 5 6 (by decide) (by decide) (by decide) rfl KV_X6_addToken k_RX6_55 rfl rfl rfl (Nat.le_of_ble_eq_true rfl) ⟨Nat.le_of_ble_eq_true rfl, Nat.le_of_ble_eq_true rfl⟩ dX6_addNumber_11 (fun S12 h => ?_)
    exact V_vret C D dX6_addNumber_14 h
/-! HalfAccuser$Tape.keywordOf(II)I -/
theorem dX6_keywordOf_0 : decode cX6_keywordOf 0 = .ok ((.iconst 0), 1) := by decide +kernel
theorem dX6_keywordOf_1 : decode cX6_keywordOf 1 = .ok ((.istore_n 3), 1) := by decide +kernel
theorem dX6_keywordOf_2 : decode cX6_keywordOf 2 = .ok ((.iload_n 1), 1) := by decide +kernel
theorem dX6_keywordOf_3 : decode cX6_keywordOf 3 = .ok ((.istore 4), 2) := by decide +kernel
theorem dX6_keywordOf_5 : decode cX6_keywordOf 5 = .ok ((.iconst 1), 1) := by decide +kernel
theorem dX6_keywordOf_6 : decode cX6_keywordOf 6 = .ok ((.istore 5), 2) := by decide +kernel
theorem dX6_keywordOf_8 : decode cX6_keywordOf 8 = .ok ((.iconst 0), 1) := by decide +kernel
theorem dX6_keywordOf_9 : decode cX6_keywordOf 9 = .ok ((.istore 6), 2) := by decide +kernel
theorem dX6_keywordOf_11 : decode cX6_keywordOf 11 = .ok ((.iload 6), 2) := by decide +kernel
theorem dX6_keywordOf_13 : decode cX6_keywordOf 13 = .ok ((.ldc 80), 2) := by decide +kernel
theorem dX6_keywordOf_15 : decode cX6_keywordOf 15 = .ok ((.invokevirtual 82), 3) := by decide +kernel
theorem dX6_keywordOf_18 : decode cX6_keywordOf 18 = .ok ((.if_icmp .ge 82), 3) := by decide +kernel
theorem dX6_keywordOf_21 : decode cX6_keywordOf 21 = .ok ((.ldc 80), 2) := by decide +kernel
theorem dX6_keywordOf_23 : decode cX6_keywordOf 23 = .ok ((.iload 6), 2) := by decide +kernel
theorem dX6_keywordOf_25 : decode cX6_keywordOf 25 = .ok ((.invokevirtual 87), 3) := by decide +kernel
theorem dX6_keywordOf_28 : decode cX6_keywordOf 28 = .ok ((.istore 7), 2) := by decide +kernel
theorem dX6_keywordOf_30 : decode cX6_keywordOf 30 = .ok ((.iload 7), 2) := by decide +kernel
theorem dX6_keywordOf_32 : decode cX6_keywordOf 32 = .ok ((.bipush 32), 2) := by decide +kernel
theorem dX6_keywordOf_34 : decode cX6_keywordOf 34 = .ok ((.if_icmp .eq 38), 3) := by decide +kernel
theorem dX6_keywordOf_37 : decode cX6_keywordOf 37 = .ok ((.iload 5), 2) := by decide +kernel
theorem dX6_keywordOf_39 : decode cX6_keywordOf 39 = .ok ((.ifCond .eq 24), 3) := by decide +kernel
theorem dX6_keywordOf_42 : decode cX6_keywordOf 42 = .ok ((.iload 4), 2) := by decide +kernel
theorem dX6_keywordOf_44 : decode cX6_keywordOf 44 = .ok ((.iload_n 2), 1) := by decide +kernel
theorem dX6_keywordOf_45 : decode cX6_keywordOf 45 = .ok ((.if_icmp .ge 18), 3) := by decide +kernel
theorem dX6_keywordOf_48 : decode cX6_keywordOf 48 = .ok ((.aload_n 0), 1) := by decide +kernel
theorem dX6_keywordOf_49 : decode cX6_keywordOf 49 = .ok ((.iload 4), 2) := by decide +kernel
theorem dX6_keywordOf_51 : decode cX6_keywordOf 51 = .ok ((.invokevirtual 33), 3) := by decide +kernel
theorem dX6_keywordOf_54 : decode cX6_keywordOf 54 = .ok ((.iload 7), 2) := by decide +kernel
theorem dX6_keywordOf_56 : decode cX6_keywordOf 56 = .ok ((.if_icmp .ne 7), 3) := by decide +kernel
theorem dX6_keywordOf_59 : decode cX6_keywordOf 59 = .ok ((.iconst 1), 1) := by decide +kernel
theorem dX6_keywordOf_60 : decode cX6_keywordOf 60 = .ok ((.goto 4), 3) := by decide +kernel
theorem dX6_keywordOf_63 : decode cX6_keywordOf 63 = .ok ((.iconst 0), 1) := by decide +kernel
theorem dX6_keywordOf_64 : decode cX6_keywordOf 64 = .ok ((.istore 5), 2) := by decide +kernel
theorem dX6_keywordOf_66 : decode cX6_keywordOf 66 = .ok ((.iinc 4 1), 3) := by decide +kernel
theorem dX6_keywordOf_69 : decode cX6_keywordOf 69 = .ok ((.goto 25), 3) := by decide +kernel
theorem dX6_keywordOf_72 : decode cX6_keywordOf 72 = .ok ((.iload 5), 2) := by decide +kernel
theorem dX6_keywordOf_74 : decode cX6_keywordOf 74 = .ok ((.ifCond .eq 11), 3) := by decide +kernel
theorem dX6_keywordOf_77 : decode cX6_keywordOf 77 = .ok ((.iload 4), 2) := by decide +kernel
theorem dX6_keywordOf_79 : decode cX6_keywordOf 79 = .ok ((.iload_n 2), 1) := by decide +kernel
theorem dX6_keywordOf_80 : decode cX6_keywordOf 80 = .ok ((.if_icmp .ne 5), 3) := by decide +kernel
theorem dX6_keywordOf_83 : decode cX6_keywordOf 83 = .ok ((.iload_n 3), 1) := by decide +kernel
theorem dX6_keywordOf_84 : decode cX6_keywordOf 84 = .ok (.ireturn, 1) := by decide +kernel
theorem dX6_keywordOf_85 : decode cX6_keywordOf 85 = .ok ((.iinc 3 1), 3) := by decide +kernel
theorem dX6_keywordOf_88 : decode cX6_keywordOf 88 = .ok ((.iload_n 1), 1) := by decide +kernel
theorem dX6_keywordOf_89 : decode cX6_keywordOf 89 = .ok ((.istore 4), 2) := by decide +kernel
theorem dX6_keywordOf_91 : decode cX6_keywordOf 91 = .ok ((.iconst 1), 1) := by decide +kernel
theorem dX6_keywordOf_92 : decode cX6_keywordOf 92 = .ok ((.istore 5), 2) := by decide +kernel
theorem dX6_keywordOf_94 : decode cX6_keywordOf 94 = .ok ((.iinc 6 1), 3) := by decide +kernel
theorem dX6_keywordOf_97 : decode cX6_keywordOf 97 = .ok ((.goto (-86)), 3) := by decide +kernel
theorem dX6_keywordOf_100 : decode cX6_keywordOf 100 = .ok ((.iconst (-1)), 1) := by decide +kernel
theorem dX6_keywordOf_101 : decode cX6_keywordOf 101 = .ok (.ireturn, 1) := by decide +kernel
def p_X6_keywordOf_94  (a1 : Int32) (a2 : Int32)  (K11 : vSt → Int32 → Int32 → Bool → Int32 → Prop) (post : Int32 → vSt → Prop) (S : vSt) (x3 : Int32) (x4 : Int32) (x5 : Bool) (x6 : Int32) : Prop := ∀ y21 : Int32, y21 = x6 + 1 → K11 S x3 x4 x5 y21
def p_X6_keywordOf_85  (a1 : Int32) (a2 : Int32)  (K11 : vSt → Int32 → Int32 → Bool → Int32 → Prop) (post : Int32 → vSt → Prop) (S : vSt) (x3 : Int32) (x6 : Int32) : Prop := ∀ y20 : Int32, y20 = x3 + 1 → p_X6_keywordOf_94 a1 a2 K11 post S y20 a1 true x6
def p_X6_keywordOf_64  (a1 : Int32) (a2 : Int32)  (K11 : vSt → Int32 → Int32 → Bool → Int32 → Prop) (post : Int32 → vSt → Prop) (S : vSt) (x3 : Int32) (x4 : Int32) (x6 : Int32) (s0 : Bool) : Prop := ∀ y20 : Int32, y20 = x4 + 1 → p_X6_keywordOf_94 a1 a2 K11 post S x3 y20 s0 x6
def p_X6_keywordOf_63  (a1 : Int32) (a2 : Int32)  (K11 : vSt → Int32 → Int32 → Bool → Int32 → Prop) (post : Int32 → vSt → Prop) (S : vSt) (x3 : Int32) (x4 : Int32) (x6 : Int32) : Prop := p_X6_keywordOf_64 a1 a2 K11 post S x3 x4 x6 false
def p_X6_keywordOf_11  (a1 : Int32) (a2 : Int32)   (post : Int32 → vSt → Prop) : Nat → vSt → Int32 → Int32 → Bool → Int32 → Prop
  | 0 => fun _ _ _ _ _ => False
  | fu11 + 1 => fun S x3 x4 x5 x6 => ((120 ≤ x6 → post (-1) S) ∧ (¬ 120 ≤ x6 → (vp_in x6 120 ∧ ∀ y19 : Int32, y19 = (v_kw.getD (Int32.toNatClampNeg x6) 0) → ((y19 = 32 → ((x5 = false → p_X6_keywordOf_85 a1 a2 (p_X6_keywordOf_11 a1 a2 post fu11) post S x3 x6) ∧ (x5 = true → ((¬ x4 = a2 → p_X6_keywordOf_85 a1 a2 (p_X6_keywordOf_11 a1 a2 post fu11) post S x3 x6) ∧ (x4 = a2 → post x3 S))))) ∧ (¬ y19 = 32 → ((x5 = false → p_X6_keywordOf_63 a1 a2 (p_X6_keywordOf_11 a1 a2 post fu11) post S x3 x4 x6) ∧ (x5 = true → ((a2 ≤ x4 → p_X6_keywordOf_63 a1 a2 (p_X6_keywordOf_11 a1 a2 post fu11) post S x3 x4 x6) ∧ (¬ a2 ≤ x4 → p_X6_byteAt  S x4 (fun r21 S20 => ((¬ r21 = y19 → p_X6_keywordOf_63 a1 a2 (p_X6_keywordOf_11 a1 a2 post fu11) post S20 x3 x4 x6) ∧ (r21 = y19 → p_X6_keywordOf_64 a1 a2 (p_X6_keywordOf_11 a1 a2 post fu11) post S20 x3 x4 x6 true))))))))))))
theorem e_X6_keywordOf_11  (a1 : Int32) (a2 : Int32)   (post : Int32 → vSt → Prop) (fu11 : Nat) (S : vSt) (x3 : Int32) (x4 : Int32) (x5 : Bool) (x6 : Int32) : p_X6_keywordOf_11 a1 a2 post (fu11 + 1) S x3 x4 x5 x6 = (((120 ≤ x6 → post (-1) S) ∧ (¬ 120 ≤ x6 → (vp_in x6 120 ∧ ∀ y19 : Int32, y19 = (v_kw.getD (Int32.toNatClampNeg x6) 0) → ((y19 = 32 → ((x5 = false → p_X6_keywordOf_85 a1 a2 (p_X6_keywordOf_11 a1 a2 post fu11) post S x3 x6) ∧ (x5 = true → ((¬ x4 = a2 → p_X6_keywordOf_85 a1 a2 (p_X6_keywordOf_11 a1 a2 post fu11) post S x3 x6) ∧ (x4 = a2 → post x3 S))))) ∧ (¬ y19 = 32 → ((x5 = false → p_X6_keywordOf_63 a1 a2 (p_X6_keywordOf_11 a1 a2 post fu11) post S x3 x4 x6) ∧ (x5 = true → ((a2 ≤ x4 → p_X6_keywordOf_63 a1 a2 (p_X6_keywordOf_11 a1 a2 post fu11) post S x3 x4 x6) ∧ (¬ a2 ≤ x4 → p_X6_byteAt  S x4 (fun r21 S20 => ((¬ r21 = y19 → p_X6_keywordOf_63 a1 a2 (p_X6_keywordOf_11 a1 a2 post fu11) post S20 x3 x4 x6) ∧ (r21 = y19 → p_X6_keywordOf_64 a1 a2 (p_X6_keywordOf_11 a1 a2 post fu11) post S20 x3 x4 x6 true))))))))))))) := rfl
def p_X6_keywordOf   (S : vSt) (a1 : Int32) (a2 : Int32) (post : Int32 → vSt → Prop) : Prop := ∃ fu11, p_X6_keywordOf_11 a1 a2 post fu11 S 0 a1 true 0
set_option maxHeartbeats 4000000 in
set_option maxRecDepth 100000 in
theorem q_X6_keywordOf_94 {X : vX} {G : vG}  {post : Int32 → vSt → Prop} (C : v_Cx X G cX6_keywordOf RX6 8 (v_rm 4 220)) (D : v_Rx X G (v_Qi G post) (some .int))  {a1 : Int32} {a2 : Int32}  {K11 : vSt → Int32 → Int32 → Bool → Int32 → Prop} (hK11 : ∀ S x3 x4 x5 x6, K11 S x3 x4 x5 x6 → VJ X G S 11 [(0, .ref (G.1 5)), (1, .int a1), (2, .int a2), (3, .int x3), (4, .int x4), (5, .int (v_b x5)), (6, .int x6)] []) : ∀ (S : vSt) (x3 : Int32) (x4 : Int32) (x5 : Bool) (x6 : Int32), p_X6_keywordOf_94 a1 a2 K11 post S x3 x4 x5 x6 → VJ X G S 94 [(0, .ref (G.1 5)), (1, .int a1), (2, .int a2), (3, .int x3), (4, .int x4), (5, .int (v_b x5)), (6, .int x6)] [] := by
  intro S x3 x4 x5 x6 h
  obtain ⟨y21, ey21⟩ : ∃ z : Int32, z = x6 + 1 := ⟨_, rfl⟩
  have h := h y21 ey21
  refine V_iinc (lv' := [(0, .ref (G.1 5)), (1, .int a1), (2, .int a2), (3, .int x3), (4, .int x4), (5, .int (v_b x5)), (6, .int y21)]) C 6 [1, 2, 3, 4, 5, 6, 0] y21 dX6_keywordOf_94 rfl (by rw [ey21]; rfl) (by decide) rfl ?_
  refine V_goto (tgt := 11) C dX6_keywordOf_97 (by decide) ?_
  exact hK11 _ _ _ _ _ h
set_option maxHeartbeats 4000000 in
set_option maxRecDepth 100000 in
theorem q_X6_keywordOf_85 {X : vX} {G : vG}  {post : Int32 → vSt → Prop} (C : v_Cx X G cX6_keywordOf RX6 8 (v_rm 4 220)) (D : v_Rx X G (v_Qi G post) (some .int))  {a1 : Int32} {a2 : Int32}  {K11 : vSt → Int32 → Int32 → Bool → Int32 → Prop} (hK11 : ∀ S x3 x4 x5 x6, K11 S x3 x4 x5 x6 → VJ X G S 11 [(0, .ref (G.1 5)), (1, .int a1), (2, .int a2), (3, .int x3), (4, .int x4), (5, .int (v_b x5)), (6, .int x6)] []) : ∀ (S : vSt) (x3 : Int32) (x6 : Int32), p_X6_keywordOf_85 a1 a2 K11 post S x3 x6 → VJ X G S 85 [(0, .ref (G.1 5)), (1, .int a1), (2, .int a2), (3, .int x3), (6, .int x6)] [] := by
  intro S x3 x6 h
  obtain ⟨y20, ey20⟩ : ∃ z : Int32, z = x3 + 1 := ⟨_, rfl⟩
  have h := h y20 ey20
  refine V_iinc (lv' := [(0, .ref (G.1 5)), (1, .int a1), (2, .int a2), (3, .int y20), (6, .int x6)]) C 3 [1, 2, 3, 0, 4] y20 dX6_keywordOf_85 rfl (by rw [ey20]; rfl) (by decide) rfl ?_
  refine V_iload_n C 1 dX6_keywordOf_88 rfl rfl ?_
  refine V_istore (lv' := [(0, .ref (G.1 5)), (1, .int a1), (2, .int a2), (3, .int y20), (4, .int a1), (6, .int x6)]) C [1, 2, 3, 4, 0, 5] dX6_keywordOf_89 (by decide) rfl ?_
  refine V_iconst (v := 1) C dX6_keywordOf_91 (by decide) ?_
  refine V_istore (lv' := [(0, .ref (G.1 5)), (1, .int a1), (2, .int a2), (3, .int y20), (4, .int a1), (5, .int 1), (6, .int x6)]) C [1, 2, 3, 4, 5, 0, 6] dX6_keywordOf_92 (by decide) rfl ?_
  exact q_X6_keywordOf_94 C D hK11 _ _ _ _ _ h
set_option maxHeartbeats 4000000 in
set_option maxRecDepth 100000 in
theorem q_X6_keywordOf_64 {X : vX} {G : vG}  {post : Int32 → vSt → Prop} (C : v_Cx X G cX6_keywordOf RX6 8 (v_rm 4 220)) (D : v_Rx X G (v_Qi G post) (some .int))  {a1 : Int32} {a2 : Int32}  {K11 : vSt → Int32 → Int32 → Bool → Int32 → Prop} (hK11 : ∀ S x3 x4 x5 x6, K11 S x3 x4 x5 x6 → VJ X G S 11 [(0, .ref (G.1 5)), (1, .int a1), (2, .int a2), (3, .int x3), (4, .int x4), (5, .int (v_b x5)), (6, .int x6)] []) : ∀ (S : vSt) (x3 : Int32) (x4 : Int32) (x6 : Int32) (s0 : Bool), p_X6_keywordOf_64 a1 a2 K11 post S x3 x4 x6 s0 → VJ X G S 64 [(0, .ref (G.1 5)), (1, .int a1), (2, .int a2), (3, .int x3), (4, .int x4), (6, .int x6)] [.int (v_b s0)] := by
  intro S x3 x4 x6 s0 h
  refine V_istore (lv' := [(0, .ref (G.1 5)), (1, .int a1), (2, .int a2), (3, .int x3), (4, .int x4), (5, .int (v_b s0)), (6, .int x6)]) C [1, 2, 3, 4, 5, 0, 6] dX6_keywordOf_64 (by decide) rfl ?_
  obtain ⟨y20, ey20⟩ : ∃ z : Int32, z = x4 + 1 := ⟨_, rfl⟩
  have h := h y20 ey20
  refine V_iinc (lv' := [(0, .ref (G.1 5)), (1, .int a1), (2, .int a2), (3, .int x3), (4, .int y20), (5, .int (v_b s0)), (6, .int x6)]) C 4 [1, 2, 3, 4, 0, 5, 6] y20 dX6_keywordOf_66 rfl (by rw [ey20]; rfl) (by decide) rfl ?_
  refine V_goto (tgt := 94) C dX6_keywordOf_69 (by decide) ?_
  exact q_X6_keywordOf_94 C D hK11 _ _ _ _ _ h
set_option maxHeartbeats 4000000 in
set_option maxRecDepth 100000 in
theorem q_X6_keywordOf_63 {X : vX} {G : vG}  {post : Int32 → vSt → Prop} (C : v_Cx X G cX6_keywordOf RX6 8 (v_rm 4 220)) (D : v_Rx X G (v_Qi G post) (some .int))  {a1 : Int32} {a2 : Int32}  {K11 : vSt → Int32 → Int32 → Bool → Int32 → Prop} (hK11 : ∀ S x3 x4 x5 x6, K11 S x3 x4 x5 x6 → VJ X G S 11 [(0, .ref (G.1 5)), (1, .int a1), (2, .int a2), (3, .int x3), (4, .int x4), (5, .int (v_b x5)), (6, .int x6)] []) : ∀ (S : vSt) (x3 : Int32) (x4 : Int32) (x6 : Int32), p_X6_keywordOf_63 a1 a2 K11 post S x3 x4 x6 → VJ X G S 63 [(0, .ref (G.1 5)), (1, .int a1), (2, .int a2), (3, .int x3), (4, .int x4), (6, .int x6)] [] := by
  intro S x3 x4 x6 h
  refine V_iconst (v := 0) C dX6_keywordOf_63 (by decide) ?_
  exact q_X6_keywordOf_64 C D hK11 _ _ _ _ _ h
set_option maxHeartbeats 4000000 in
set_option maxRecDepth 100000 in
theorem q_X6_keywordOf_11 {X : vX} {G : vG}  {post : Int32 → vSt → Prop} (C : v_Cx X G cX6_keywordOf RX6 8 (v_rm 4 220)) (D : v_Rx X G (v_Qi G post) (some .int))  {a1 : Int32} {a2 : Int32}   : ∀ (fu : Nat) (S : vSt) (x3 : Int32) (x4 : Int32) (x5 : Bool) (x6 : Int32), p_X6_keywordOf_11 a1 a2 post fu S x3 x4 x5 x6 → VJ X G S 11 [(0, .ref (G.1 5)), (1, .int a1), (2, .int a2), (3, .int x3), (4, .int x4), (5, .int (v_b x5)), (6, .int x6)] [] := by
  intro fu
  induction fu with
  | zero => intro S x3 x4 x5 x6 h; exact absurd h id
  | succ fu ih =>
    intro S x3 x4 x5 x6 h
    have hK11 := ih
    rw [e_X6_keywordOf_11] at h
    refine V_iload C 6 dX6_keywordOf_11 rfl ?_
    refine V_kldc C (tx := "") rfl rfl dX6_keywordOf_13 ?_
    refine V_callKi (As := []) (rest := [.int x6]) C (c_strlen (v_l X) G (fun r S1 => r = 120 ∧ S = S1) ⟨rfl, rfl⟩) KV_J0_length_8abf5 k_RX6_82 rfl rfl rfl (Nat.le_of_ble_eq_true rfl) ⟨Nat.le_of_ble_eq_true rfl, Nat.le_of_ble_eq_true rfl⟩ dX6_keywordOf_15 (fun r S1 h0 => ?_)
    obtain ⟨rfl, rfl⟩ := h0
    refine V_icmp_ge (tgt := 100) C dX6_keywordOf_18 (by decide) (fun c => ?_) (fun c => ?_)
    · have h := h.1 c
      refine V_iconst (v := (-1)) C dX6_keywordOf_100 (by decide) ?_
      exact V_iret C D dX6_keywordOf_101 h
    · have h := h.2 c
      refine V_kldc C (tx := "") rfl rfl dX6_keywordOf_21 ?_
      refine V_iload C 6 dX6_keywordOf_23 rfl ?_
      obtain ⟨hi, h⟩ := h
      refine V_callKi (As := [.int x6]) (rest := []) C (c_charAt (v_l X) G hi (fun r S1 => r = (v_kw.getD (Int32.toNatClampNeg x6) 0) ∧ S = S1) ⟨rfl, rfl⟩) KV_J0_charAt_5068e k_RX6_87 rfl rfl rfl (Nat.le_of_ble_eq_true rfl) ⟨Nat.le_of_ble_eq_true rfl, Nat.le_of_ble_eq_true rfl⟩ dX6_keywordOf_25 (fun r S1 h0 => ?_)
      obtain ⟨rfl, rfl⟩ := h0
      refine V_topi (fun y19 ey19 => ?_)
      have h := h y19 ey19
      refine V_istore (lv' := [(0, .ref (G.1 5)), (1, .int a1), (2, .int a2), (3, .int x3), (4, .int x4), (5, .int (v_b x5)), (6, .int x6), (7, .int y19)]) C [1, 2, 3, 4, 5, 6, 7, 0] dX6_keywordOf_28 (by decide) rfl ?_
      refine V_iload C 7 dX6_keywordOf_30 rfl ?_
      refine V_bipush (v := 32) C dX6_keywordOf_32 (by decide) ?_
      refine V_icmp_eq (tgt := 72) C dX6_keywordOf_34 (by decide) (fun c => ?_) (fun c => ?_)
      · have h := h.1 c
        refine V_iload C 5 dX6_keywordOf_72 rfl ?_
        refine V_ifb_eq (tgt := 85) C dX6_keywordOf_74 (by decide) (fun c => ?_) (fun c => ?_)
        · have h := h.1 c
          refine V_loc (lv' := [(0, .ref (G.1 5)), (1, .int a1), (2, .int a2), (3, .int x3), (6, .int x6)]) [0, 1, 2, 3, 6] rfl ?_
          exact q_X6_keywordOf_85 C D hK11 _ _ _ h
        · have h := h.2 c
          refine V_iload C 4 dX6_keywordOf_77 rfl ?_
          refine V_iload_n C 2 dX6_keywordOf_79 rfl rfl ?_
          refine V_icmp_ne (tgt := 85) C dX6_keywordOf_80 (by decide) (fun c => ?_) (fun c => ?_)
          · have h := h.1 c
            refine V_loc (lv' := [(0, .ref (G.1 5)), (1, .int a1), (2, .int a2), (3, .int x3), (6, .int x6)]) [0, 1, 2, 3, 6] rfl ?_
            exact q_X6_keywordOf_85 C D hK11 _ _ _ h
          · have h := h.2 c
            refine V_iload_n C 3 dX6_keywordOf_83 rfl rfl ?_
            exact V_iret C D dX6_keywordOf_84 h
      · have h := h.2 c
        refine V_iload C 5 dX6_keywordOf_37 rfl ?_
        refine V_ifb_eq (tgt := 63) C dX6_keywordOf_39 (by decide) (fun c => ?_) (fun c => ?_)
        · have h := h.1 c
          refine V_loc (lv' := [(0, .ref (G.1 5)), (1, .int a1), (2, .int a2), (3, .int x3), (4, .int x4), (6, .int x6)]) [0, 1, 2, 3, 4, 6] rfl ?_
          exact q_X6_keywordOf_63 C D hK11 _ _ _ _ h
        · have h := h.2 c
          refine V_iload C 4 dX6_keywordOf_42 rfl ?_
          refine V_iload_n C 2 dX6_keywordOf_44 rfl rfl ?_
          refine V_icmp_ge (tgt := 63) C dX6_keywordOf_45 (by decide) (fun c => ?_) (fun c => ?_)
          · have h := h.1 c
            refine V_loc (lv' := [(0, .ref (G.1 5)), (1, .int a1), (2, .int a2), (3, .int x3), (4, .int x4), (6, .int x6)]) [0, 1, 2, 3, 4, 6] rfl ?_
            exact q_X6_keywordOf_63 C D hK11 _ _ _ _ h
          · have h := h.2 c
            refine V_aload_n C 0 dX6_keywordOf_48 rfl rfl ?_
            refine V_iload C 4 dX6_keywordOf_49 rfl ?_
            refine V_callVi (As := [.int x4]) (rest := []) C (c_X6_byteAt (v_l X) G  _ _ h) 5 6 (by decide) (by decide) (by decide) rfl KV_X6_byteAt k_RX6_33 rfl rfl rfl (Nat.le_of_ble_eq_true rfl) ⟨Nat.le_of_ble_eq_true rfl, Nat.le_of_ble_eq_true rfl⟩ dX6_keywordOf_51 (fun r21 S20 h => ?_)
            refine V_iload C 7 dX6_keywordOf_54 rfl ?_
            refine V_icmp_ne (tgt := 63) C dX6_keywordOf_56 (by decide) (fun c => ?_) (fun c => ?_)
            · have h := h.1 c
              refine V_loc (lv' := [(0, .ref (G.1 5)), (1, .int a1), (2, .int a2), (3, .int x3), (4, .int x4), (6, .int x6)]) [0, 1, 2, 3, 4, 6] rfl ?_
              exact q_X6_keywordOf_63 C D hK11 _ _ _ _ h
            · have h := h.2 c
              refine V_iconst (v := 1) C dX6_keywordOf_59 (by decide) ?_
              refine V_goto (tgt := 64) C dX6_keywordOf_60 (by decide) ?_
              refine V_loc (lv' := [(0, .ref (G.1 5)), (1, .int a1), (2, .int a2), (3, .int x3), (4, .int x4), (6, .int x6)]) [0, 1, 2, 3, 4, 6] rfl ?_
              exact q_X6_keywordOf_64 C D hK11 _ _ _ _ _ h
set_option maxHeartbeats 4000000 in
set_option maxRecDepth 100000 in
theorem c_X6_keywordOf (l : Launch) (G : vG)    {S : vSt} (a1 : Int32) (a2 : Int32) (post : Int32 → vSt → Prop) (h : p_X6_keywordOf   S a1 a2 post) : Met l yX6_keywordOf (v_ws yX6_keywordOf cX6_keywordOf 8 (some .int)) (v_rm 4 220) (v_Pc G [.ref (G.1 5), .int a1, .int a2] S) (v_Qi G post) 0 0 (v_A G) := by
  refine v_start (by decide +kernel) (Nat.le_of_ble_eq_true rfl) (fun X hl C D => ?_)
  subst hl
  have C : v_Cx X G cX6_keywordOf RX6 8 (v_rm 4 220) := C
  show VJ X G S 0 [(0, .ref (G.1 5)), (1, .int a1), (2, .int a2)] []
  refine V_iconst (v := 0) C dX6_keywordOf_0 (by decide) ?_
  refine V_istore_n (lv' := [(0, .ref (G.1 5)), (1, .int a1), (2, .int a2), (3, .int 0)]) C [1, 2, 3, 0] dX6_keywordOf_1 rfl (by decide) rfl ?_
  refine V_iload_n C 1 dX6_keywordOf_2 rfl rfl ?_
  refine V_istore (lv' := [(0, .ref (G.1 5)), (1, .int a1), (2, .int a2), (3, .int 0), (4, .int a1)]) C [1, 2, 3, 4, 0] dX6_keywordOf_3 (by decide) rfl ?_
  refine V_iconst (v := 1) C dX6_keywordOf_5 (by decide) ?_
  refine V_istore (lv' := [(0, .ref (G.1 5)), (1, .int a1), (2, .int a2), (3, .int 0), (4, .int a1), (5, .int 1)]) C [1, 2, 3, 4, 5, 0] dX6_keywordOf_6 (by decide) rfl ?_
  refine V_iconst (v := 0) C dX6_keywordOf_8 (by decide) ?_
  refine V_istore (lv' := [(0, .ref (G.1 5)), (1, .int a1), (2, .int a2), (3, .int 0), (4, .int a1), (5, .int 1), (6, .int 0)]) C [1, 2, 3, 4, 5, 6, 0] dX6_keywordOf_9 (by decide) rfl ?_
  obtain ⟨fu11, h⟩ := h
  exact q_X6_keywordOf_11 C D  fu11 _ _ _ _ _ h
/-! HalfAccuser$Tape.nameOf(II)J -/
theorem dX6_nameOf_0 : decode cX6_nameOf 0 = .ok ((.lconst 0), 1) := by decide +kernel
theorem dX6_nameOf_1 : decode cX6_nameOf 1 = .ok ((.lstore_n 3), 1) := by decide +kernel
theorem dX6_nameOf_2 : decode cX6_nameOf 2 = .ok ((.iload_n 1), 1) := by decide +kernel
theorem dX6_nameOf_3 : decode cX6_nameOf 3 = .ok ((.istore 5), 2) := by decide +kernel
theorem dX6_nameOf_5 : decode cX6_nameOf 5 = .ok ((.iload 5), 2) := by decide +kernel
theorem dX6_nameOf_7 : decode cX6_nameOf 7 = .ok ((.iload_n 2), 1) := by decide +kernel
theorem dX6_nameOf_8 : decode cX6_nameOf 8 = .ok ((.if_icmp .ge 29), 3) := by decide +kernel
theorem dX6_nameOf_11 : decode cX6_nameOf 11 = .ok ((.lload_n 3), 1) := by decide +kernel
theorem dX6_nameOf_12 : decode cX6_nameOf 12 = .ok ((.ldc2_w 91), 3) := by decide +kernel
theorem dX6_nameOf_15 : decode cX6_nameOf 15 = .ok (.lmul, 1) := by decide +kernel
theorem dX6_nameOf_16 : decode cX6_nameOf 16 = .ok ((.aload_n 0), 1) := by decide +kernel
theorem dX6_nameOf_17 : decode cX6_nameOf 17 = .ok ((.iload 5), 2) := by decide +kernel
theorem dX6_nameOf_19 : decode cX6_nameOf 19 = .ok ((.invokevirtual 33), 3) := by decide +kernel
theorem dX6_nameOf_22 : decode cX6_nameOf 22 = .ok (.i2l, 1) := by decide +kernel
theorem dX6_nameOf_23 : decode cX6_nameOf 23 = .ok (.ladd, 1) := by decide +kernel
theorem dX6_nameOf_24 : decode cX6_nameOf 24 = .ok ((.ldc2_w 93), 3) := by decide +kernel
theorem dX6_nameOf_27 : decode cX6_nameOf 27 = .ok (.lsub, 1) := by decide +kernel
theorem dX6_nameOf_28 : decode cX6_nameOf 28 = .ok ((.lconst 1), 1) := by decide +kernel
theorem dX6_nameOf_29 : decode cX6_nameOf 29 = .ok (.ladd, 1) := by decide +kernel
theorem dX6_nameOf_30 : decode cX6_nameOf 30 = .ok ((.lstore_n 3), 1) := by decide +kernel
theorem dX6_nameOf_31 : decode cX6_nameOf 31 = .ok ((.iinc 5 1), 3) := by decide +kernel
theorem dX6_nameOf_34 : decode cX6_nameOf 34 = .ok ((.goto (-29)), 3) := by decide +kernel
theorem dX6_nameOf_37 : decode cX6_nameOf 37 = .ok ((.lload_n 3), 1) := by decide +kernel
theorem dX6_nameOf_38 : decode cX6_nameOf 38 = .ok (.lreturn, 1) := by decide +kernel
def p_X6_nameOf_5  (a1 : Int32) (a2 : Int32)   (post : Int64 → vSt → Prop) : Nat → vSt → Int64 → Int32 → Prop
  | 0 => fun _ _ _ => False
  | fu5 + 1 => fun S x3 x5 => ((a2 ≤ x5 → post x3 S) ∧ (¬ a2 ≤ x5 → p_X6_byteAt  S x5 (fun r10 S9 => ∀ y11 : Int64, y11 = ((((x3 * 32) + (Int32.toInt64 r10)) - 97) + 1) → ∀ y12 : Int32, y12 = x5 + 1 → (p_X6_nameOf_5 a1 a2 post fu5) S9 y11 y12)))
theorem e_X6_nameOf_5  (a1 : Int32) (a2 : Int32)   (post : Int64 → vSt → Prop) (fu5 : Nat) (S : vSt) (x3 : Int64) (x5 : Int32) : p_X6_nameOf_5 a1 a2 post (fu5 + 1) S x3 x5 = (((a2 ≤ x5 → post x3 S) ∧ (¬ a2 ≤ x5 → p_X6_byteAt  S x5 (fun r10 S9 => ∀ y11 : Int64, y11 = ((((x3 * 32) + (Int32.toInt64 r10)) - 97) + 1) → ∀ y12 : Int32, y12 = x5 + 1 → (p_X6_nameOf_5 a1 a2 post fu5) S9 y11 y12)))) := rfl
def p_X6_nameOf   (S : vSt) (a1 : Int32) (a2 : Int32) (post : Int64 → vSt → Prop) : Prop := ∃ fu5, p_X6_nameOf_5 a1 a2 post fu5 S 0 a1
set_option maxHeartbeats 4000000 in
set_option maxRecDepth 100000 in
theorem q_X6_nameOf_5 {X : vX} {G : vG}  {post : Int64 → vSt → Prop} (C : v_Cx X G cX6_nameOf RX6 6 (v_rm 1 61)) (D : v_Rx X G (v_Ql G post) (some .long))  {a1 : Int32} {a2 : Int32}   : ∀ (fu : Nat) (S : vSt) (x3 : Int64) (x5 : Int32), p_X6_nameOf_5 a1 a2 post fu S x3 x5 → VJ X G S 5 [(0, .ref (G.1 5)), (2, .int a2), (3, .long x3), (5, .int x5)] [] := by
  intro fu
  induction fu with
  | zero => intro S x3 x5 h; exact absurd h id
  | succ fu ih =>
    intro S x3 x5 h
    have hK5 := ih
    rw [e_X6_nameOf_5] at h
    refine V_iload C 3 dX6_nameOf_5 rfl ?_
    refine V_iload_n C 1 dX6_nameOf_7 rfl rfl ?_
    refine V_icmp_ge (tgt := 37) C dX6_nameOf_8 (by decide) (fun c => ?_) (fun c => ?_)
    · have h := h.1 c
      refine V_lload_n C 2 dX6_nameOf_37 rfl rfl ?_
      exact V_lret C D dX6_nameOf_38 h
    · have h := h.2 c
      refine V_lload_n C 2 dX6_nameOf_11 rfl rfl ?_
      refine V_ldc2 (v := 32) C k_RX6_91 dX6_nameOf_12 ?_
      refine V_lmul C dX6_nameOf_15 ?_
      refine V_aload_n C 0 dX6_nameOf_16 rfl rfl ?_
      refine V_iload C 3 dX6_nameOf_17 rfl ?_
      refine V_callVi (As := [.int x5]) (rest := [.long (x3 * 32)]) C (c_X6_byteAt (v_l X) G  _ _ h) 5 6 (by decide) (by decide) (by decide) rfl KV_X6_byteAt k_RX6_33 rfl rfl rfl (Nat.le_of_ble_eq_true rfl) ⟨Nat.le_of_ble_eq_true rfl, Nat.le_of_ble_eq_true rfl⟩ dX6_nameOf_19 (fun r10 S9 h => ?_)
      refine V_i2l C dX6_nameOf_22 ?_
      refine V_ladd C dX6_nameOf_23 ?_
      refine V_ldc2 (v := 97) C k_RX6_93 dX6_nameOf_24 ?_
      refine V_lsub C dX6_nameOf_27 ?_
      refine V_lconst (v := 1) C dX6_nameOf_28 (by decide) ?_
      refine V_ladd C dX6_nameOf_29 ?_
      refine V_topl (fun y11 ey11 => ?_)
      have h := h y11 ey11
      refine V_lstore_n (lv' := [(0, .ref (G.1 5)), (2, .int a2), (3, .long y11), (5, .int x5)]) C [1, 2, 0, 3] dX6_nameOf_30 rfl (by decide) rfl ?_
      obtain ⟨y12, ey12⟩ : ∃ z : Int32, z = x5 + 1 := ⟨_, rfl⟩
      have h := h y12 ey12
      refine V_iinc (lv' := [(0, .ref (G.1 5)), (2, .int a2), (3, .long y11), (5, .int y12)]) C 3 [1, 2, 3, 0] y12 dX6_nameOf_31 rfl (by rw [ey12]; rfl) (by decide) rfl ?_
      refine V_goto (tgt := 5) C dX6_nameOf_34 (by decide) ?_
      exact hK5 _ _ _ h
set_option maxHeartbeats 4000000 in
set_option maxRecDepth 100000 in
theorem c_X6_nameOf (l : Launch) (G : vG)    {S : vSt} (a1 : Int32) (a2 : Int32) (post : Int64 → vSt → Prop) (h : p_X6_nameOf   S a1 a2 post) : Met l yX6_nameOf (v_ws yX6_nameOf cX6_nameOf 6 (some .long)) (v_rm 1 61) (v_Pc G [.ref (G.1 5), .int a1, .int a2] S) (v_Ql G post) 0 0 (v_A G) := by
  refine v_start (by decide +kernel) (Nat.le_of_ble_eq_true rfl) (fun X hl C D => ?_)
  subst hl
  have C : v_Cx X G cX6_nameOf RX6 6 (v_rm 1 61) := C
  show VJ X G S 0 [(0, .ref (G.1 5)), (1, .int a1), (2, .int a2)] []
  refine V_lconst (v := 0) C dX6_nameOf_0 (by decide) ?_
  refine V_lstore_n (lv' := [(0, .ref (G.1 5)), (1, .int a1), (2, .int a2), (3, .long 0)]) C [1, 2, 3, 0] dX6_nameOf_1 rfl (by decide) rfl ?_
  refine V_iload_n C 1 dX6_nameOf_2 rfl rfl ?_
  refine V_istore (lv' := [(0, .ref (G.1 5)), (1, .int a1), (2, .int a2), (3, .long 0), (5, .int a1)]) C [1, 2, 3, 4, 0] dX6_nameOf_3 (by decide) rfl ?_
  refine V_loc (lv' := [(0, .ref (G.1 5)), (2, .int a2), (3, .long 0), (5, .int a1)]) [0, 2, 3, 4] rfl ?_
  obtain ⟨fu5, h⟩ := h
  exact q_X6_nameOf_5 C D  fu5 _ _ _ h
/-! HalfAccuser$Tape.addWord(II)V -/
theorem dX6_addWord_0 : decode cX6_addWord 0 = .ok ((.aload_n 0), 1) := by decide +kernel
theorem dX6_addWord_1 : decode cX6_addWord 1 = .ok ((.iload_n 1), 1) := by decide +kernel
theorem dX6_addWord_2 : decode cX6_addWord 2 = .ok ((.iload_n 2), 1) := by decide +kernel
theorem dX6_addWord_3 : decode cX6_addWord 3 = .ok ((.invokevirtual 72), 3) := by decide +kernel
theorem dX6_addWord_6 : decode cX6_addWord 6 = .ok ((.istore_n 3), 1) := by decide +kernel
theorem dX6_addWord_7 : decode cX6_addWord 7 = .ok ((.iload_n 3), 1) := by decide +kernel
theorem dX6_addWord_8 : decode cX6_addWord 8 = .ok ((.iconst (-1)), 1) := by decide +kernel
theorem dX6_addWord_9 : decode cX6_addWord 9 = .ok ((.if_icmp .eq 14), 3) := by decide +kernel
theorem dX6_addWord_12 : decode cX6_addWord 12 = .ok ((.aload_n 0), 1) := by decide +kernel
theorem dX6_addWord_13 : decode cX6_addWord 13 = .ok ((.iconst 2), 1) := by decide +kernel
theorem dX6_addWord_14 : decode cX6_addWord 14 = .ok ((.iload_n 1), 1) := by decide +kernel
theorem dX6_addWord_15 : decode cX6_addWord 15 = .ok ((.iload_n 3), 1) := by decide +kernel
theorem dX6_addWord_16 : decode cX6_addWord 16 = .ok (.i2l, 1) := by decide +kernel
theorem dX6_addWord_17 : decode cX6_addWord 17 = .ok ((.invokevirtual 55), 3) := by decide +kernel
theorem dX6_addWord_20 : decode cX6_addWord 20 = .ok ((.goto 33), 3) := by decide +kernel
theorem dX6_addWord_23 : decode cX6_addWord 23 = .ok ((.iload_n 2), 1) := by decide +kernel
theorem dX6_addWord_24 : decode cX6_addWord 24 = .ok ((.iload_n 1), 1) := by decide +kernel
theorem dX6_addWord_25 : decode cX6_addWord 25 = .ok (.isub, 1) := by decide +kernel
theorem dX6_addWord_26 : decode cX6_addWord 26 = .ok ((.bipush 8), 2) := by decide +kernel
theorem dX6_addWord_28 : decode cX6_addWord 28 = .ok ((.if_icmp .le 13), 3) := by decide +kernel
theorem dX6_addWord_31 : decode cX6_addWord 31 = .ok ((.aload_n 0), 1) := by decide +kernel
theorem dX6_addWord_32 : decode cX6_addWord 32 = .ok ((.iconst 4), 1) := by decide +kernel
theorem dX6_addWord_33 : decode cX6_addWord 33 = .ok ((.iload_n 1), 1) := by decide +kernel
theorem dX6_addWord_34 : decode cX6_addWord 34 = .ok ((.lconst 0), 1) := by decide +kernel
theorem dX6_addWord_35 : decode cX6_addWord 35 = .ok ((.invokevirtual 55), 3) := by decide +kernel
theorem dX6_addWord_38 : decode cX6_addWord 38 = .ok ((.goto 15), 3) := by decide +kernel
theorem dX6_addWord_41 : decode cX6_addWord 41 = .ok ((.aload_n 0), 1) := by decide +kernel
theorem dX6_addWord_42 : decode cX6_addWord 42 = .ok ((.iconst 3), 1) := by decide +kernel
theorem dX6_addWord_43 : decode cX6_addWord 43 = .ok ((.iload_n 1), 1) := by decide +kernel
theorem dX6_addWord_44 : decode cX6_addWord 44 = .ok ((.aload_n 0), 1) := by decide +kernel
theorem dX6_addWord_45 : decode cX6_addWord 45 = .ok ((.iload_n 1), 1) := by decide +kernel
theorem dX6_addWord_46 : decode cX6_addWord 46 = .ok ((.iload_n 2), 1) := by decide +kernel
theorem dX6_addWord_47 : decode cX6_addWord 47 = .ok ((.invokevirtual 76), 3) := by decide +kernel
theorem dX6_addWord_50 : decode cX6_addWord 50 = .ok ((.invokevirtual 55), 3) := by decide +kernel
theorem dX6_addWord_53 : decode cX6_addWord 53 = .ok (.return_, 1) := by decide +kernel
def p_X6_addWord   (S : vSt) (a1 : Int32) (a2 : Int32) (post : vSt → Prop) : Prop := p_X6_keywordOf  S a1 a2 (fun r9 S8 => ((r9 = (-1) → (((a2 - a1) ≤ 8 → p_X6_nameOf  S8 a1 a2 (fun r11 S10 => p_X6_addToken  S10 3 a1 r11 (fun S12 => post S12))) ∧ (¬ (a2 - a1) ≤ 8 → p_X6_addToken  S8 4 a1 0 (fun S13 => post S13)))) ∧ (¬ r9 = (-1) → p_X6_addToken  S8 2 a1 (Int32.toInt64 r9) (fun S14 => post S14))))
set_option maxHeartbeats 4000000 in
set_option maxRecDepth 100000 in
theorem c_X6_addWord (l : Launch) (G : vG)    {S : vSt} (a1 : Int32) (a2 : Int32) (post : vSt → Prop) (h : p_X6_addWord   S a1 a2 post) : Met l yX6_addWord (v_ws yX6_addWord cX6_addWord 4 none) (v_rm 5 247) (v_Pc G [.ref (G.1 5), .int a1, .int a2] S) (v_Qv G post) 0 0 (v_A G) := by
  refine v_start (by decide +kernel) (Nat.le_of_ble_eq_true rfl) (fun X hl C D => ?_)
  subst hl
  have C : v_Cx X G cX6_addWord RX6 4 (v_rm 5 247) := C
  show VJ X G S 0 [(0, .ref (G.1 5)), (1, .int a1), (2, .int a2)] []
  refine V_aload_n C 0 dX6_addWord_0 rfl rfl ?_
  refine V_iload_n C 1 dX6_addWord_1 rfl rfl ?_
  refine V_iload_n C 2 dX6_addWord_2 rfl rfl ?_
  refine V_callVi (As := [.int a1, .int a2]) (rest := []) C (c_X6_keywordOf (v_l X) G  _ _ _ h) 5 6 (by decide) (by decide) (by decide) rfl KV_X6_keywordOf k_RX6_72 rfl rfl rfl (Nat.le_of_ble_eq_true rfl) ⟨Nat.le_of_ble_eq_true rfl, Nat.le_of_ble_eq_true rfl⟩ dX6_addWord_3 (fun r9 S8 h => ?_)
  refine V_istore_n (lv' := [(0, .ref (G.1 5)), (1, .int a1), (2, .int a2), (3, .int r9)]) C [1, 2, 3, 0] dX6_addWord_6 rfl (by decide) rfl ?_
  refine V_iload_n C 3 dX6_addWord_7 rfl rfl ?_
  refine V_iconst (v := (-1)) C dX6_addWord_8 (by decide) ?_
  refine V_icmp_eq (tgt := 23) C dX6_addWord_9 (by decide) (fun c => ?_) (fun c => ?_)
  · have h := h.1 c
    refine V_iload_n C 2 dX6_addWord_23 rfl rfl ?_
    refine V_iload_n C 1 dX6_addWord_24 rfl rfl ?_
    refine V_isub C dX6_addWord_25 ?_
    refine V_bipush (v := 8) C dX6_addWord_26 (by decide) ?_
    refine V_icmp_le (tgt := 41) C dX6_addWord_28 (by decide) (fun c => ?_) (fun c => ?_)
    · have h := h.1 c
      refine V_aload_n C 0 dX6_addWord_41 rfl rfl ?_
      refine V_iconst (v := 3) C dX6_addWord_42 (by decide) ?_
      refine V_iload_n C 1 dX6_addWord_43 rfl rfl ?_
      refine V_aload_n C 0 dX6_addWord_44 rfl rfl ?_
      refine V_iload_n C 1 dX6_addWord_45 rfl rfl ?_
      refine V_iload_n C 2 dX6_addWord_46 rfl rfl ?_
      refine V_callVl (As := [.int a1, .int a2]) (rest := [.int a1, .int 3, .ref (G.1 5)]) C (c_X6_nameOf (v_l X) G  _ _ _ h) 5 6 (by decide) (by decide) (by decide) rfl KV_X6_nameOf k_RX6_76 rfl rfl rfl (Nat.le_of_ble_eq_true rfl) ⟨Nat.le_of_ble_eq_true rfl, Nat.le_of_ble_eq_true rfl⟩ dX6_addWord_47 (fun r11 S10 h => ?_)
      refine V_callVv (As := [.int 3, .int a1, .long r11]) (rest := []) C (c_X6_addToken (v_l X) G  _ _ _ _ h) 5 6 (by decide) (by decide) (by decide) rfl KV_X6_addToken k_RX6_55 rfl rfl rfl (Nat.le_of_ble_eq_true rfl) ⟨Nat.le_of_ble_eq_true rfl, Nat.le_of_ble_eq_true rfl⟩ dX6_addWord_50 (fun S12 h => ?_)
      exact V_vret C D dX6_addWord_53 h
    · have h := h.2 c
      refine V_aload_n C 0 dX6_addWord_31 rfl rfl ?_
      refine V_iconst (v := 4) C dX6_addWord_32 (by decide) ?_
      refine V_iload_n C 1 dX6_addWord_33 rfl rfl ?_
      refine V_lconst (v := 0) C dX6_addWord_34 (by decide) ?_
      refine V_callVv (As := [.int 4, .int a1, .long 0]) (rest := []) C (c_X6_addToken (v_l X) G  _ _ _ _ h) 5 6 (by decide) (by decide) (by decide) rfl KV_X6_addToken k_RX6_55 rfl rfl rfl (Nat.le_of_ble_eq_true rfl) ⟨Nat.le_of_ble_eq_true rfl, Nat.le_of_ble_eq_true rfl⟩ dX6_addWord_35 (fun S13 h => ?_)
      refine V_goto (tgt := 53) C dX6_addWord_38 (by decide) ?_
      exact V_vret C D dX6_addWord_53 h
  · have h := h.2 c
    refine V_aload_n C 0 dX6_addWord_12 rfl rfl ?_
    refine V_iconst (v := 2) C dX6_addWord_13 (by decide) ?_
    refine V_iload_n C 1 dX6_addWord_14 rfl rfl ?_
    refine V_iload_n C 3 dX6_addWord_15 rfl rfl ?_
    refine V_i2l C dX6_addWord_16 ?_
    refine V_callVv (As := [.int 2, .int a1, .long (Int32.toInt64 r9)]) (rest := []) C (c_X6_addToken (v_l X) G  _ _ _ _ h) 5 6 (by decide) (by decide) (by decide) rfl KV_X6_addToken k_RX6_55 rfl rfl rfl (Nat.le_of_ble_eq_true rfl) ⟨Nat.le_of_ble_eq_true rfl, Nat.le_of_ble_eq_true rfl⟩ dX6_addWord_17 (fun S14 h => ?_)
    refine V_goto (tgt := 53) C dX6_addWord_20 (by decide) ?_
    exact V_vret C D dX6_addWord_53 h
/-! HalfAccuser$Tape.isDigit(I)Z -/
theorem dX6_isDigit_0 : decode cX6_isDigit 0 = .ok ((.iload_n 0), 1) := by decide +kernel
theorem dX6_isDigit_1 : decode cX6_isDigit 1 = .ok ((.bipush 48), 2) := by decide +kernel
theorem dX6_isDigit_3 : decode cX6_isDigit 3 = .ok ((.if_icmp .lt 13), 3) := by decide +kernel
theorem dX6_isDigit_6 : decode cX6_isDigit 6 = .ok ((.iload_n 0), 1) := by decide +kernel
theorem dX6_isDigit_7 : decode cX6_isDigit 7 = .ok ((.bipush 57), 2) := by decide +kernel
theorem dX6_isDigit_9 : decode cX6_isDigit 9 = .ok ((.if_icmp .gt 7), 3) := by decide +kernel
theorem dX6_isDigit_12 : decode cX6_isDigit 12 = .ok ((.iconst 1), 1) := by decide +kernel
theorem dX6_isDigit_13 : decode cX6_isDigit 13 = .ok ((.goto 4), 3) := by decide +kernel
theorem dX6_isDigit_16 : decode cX6_isDigit 16 = .ok ((.iconst 0), 1) := by decide +kernel
theorem dX6_isDigit_17 : decode cX6_isDigit 17 = .ok (.ireturn, 1) := by decide +kernel
def p_X6_isDigit   (S : vSt) (a0 : Int32) (post : Bool → vSt → Prop) : Prop := ((a0 < 48 → post false S) ∧ (¬ a0 < 48 → ((57 < a0 → post false S) ∧ (¬ 57 < a0 → post true S))))
set_option maxHeartbeats 4000000 in
set_option maxRecDepth 100000 in
theorem c_X6_isDigit (l : Launch) (G : vG)    {S : vSt} (a0 : Int32) (post : Bool → vSt → Prop) (h : p_X6_isDigit   S a0 post) : Met l yX6_isDigit (v_ws yX6_isDigit cX6_isDigit 1 (some .boolean)) (v_rm 0 40) (v_Pc G [.int a0] S) (v_Qz G post) 0 0 (v_A G) := by
  refine v_start (by decide +kernel) (Nat.le_of_ble_eq_true rfl) (fun X hl C D => ?_)
  subst hl
  have C : v_Cx X G cX6_isDigit RX6 1 (v_rm 0 40) := C
  show VJ X G S 0 [(0, .int a0)] []
  refine V_iload_n C 0 dX6_isDigit_0 rfl rfl ?_
  refine V_bipush (v := 48) C dX6_isDigit_1 (by decide) ?_
  refine V_icmp_lt (tgt := 16) C dX6_isDigit_3 (by decide) (fun c => ?_) (fun c => ?_)
  · have h := h.1 c
    refine V_iconst (v := 0) C dX6_isDigit_16 (by decide) ?_
    exact V_zret0 C D dX6_isDigit_17 h
  · have h := h.2 c
    refine V_iload_n C 0 dX6_isDigit_6 rfl rfl ?_
    refine V_bipush (v := 57) C dX6_isDigit_7 (by decide) ?_
    refine V_icmp_gt (tgt := 16) C dX6_isDigit_9 (by decide) (fun c => ?_) (fun c => ?_)
    · have h := h.1 c
      refine V_iconst (v := 0) C dX6_isDigit_16 (by decide) ?_
      exact V_zret0 C D dX6_isDigit_17 h
    · have h := h.2 c
      refine V_iconst (v := 1) C dX6_isDigit_12 (by decide) ?_
      refine V_goto (tgt := 17) C dX6_isDigit_13 (by decide) ?_
      exact V_zret1 C D dX6_isDigit_17 h
