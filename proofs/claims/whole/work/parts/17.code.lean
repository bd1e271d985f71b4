/-! HalfAccuser$Tape.keywordOf(II)I -/
theorem dX6_keywordOf_0 : decode cX6_keywordOf 0 = .ok ((.iconst 0), 1) := by decide +kernel
theorem dX6_keywordOf_1 : decode cX6_keywordOf 1 = .ok ((.istore_n 3), 1) := by decide +kernel
theorem dX6_keywordOf_2 : decode cX6_keywordOf 2 = .ok ((.iload_n 1), 1) := by decide +kernel
theorem dX6_keywordOf_3 : decode cX6_keywordOf 3 = .ok ((.istore 4), 2) := by decide +kernel
theorem dX6_keywordOf_5 : decode cX6_keywordOf 5 = .ok ((.iconst 1), 1) := by decide +kernel
theorem dX6_keywordOf_6 : decode cX6_keywordOf 6 = .ok ((.istore 5), 2) := by decide +kernel
theorem dX6_keywordOf_8 : decode cX6_keywordOf 8 = .ok ((.iconst 0), 1) := by decide +kernel
theorem dX6_keywordOf_9 : decode cX6_keywordOf 9 = .ok ((.istore 6), 2) := by decide +kernel
theorem dX6_keywordOf_11 : decode cX6_keywordOf 11 = .ok ((.iload 6), 2) := by decide +kernel
theorem dX6_keywordOf_13 : decode cX6_keywordOf 13 = .ok ((.ldc 80), 2) := by decide +kernel
theorem dX6_keywordOf_15 : decode cX6_keywordOf 15 = .ok ((.invokevirtual 82), 3) := by decide +kernel
theorem dX6_keywordOf_18 : decode cX6_keywordOf 18 = .ok ((.if_icmp .ge 82), 3) := by decide +kernel
theorem dX6_keywordOf_21 : decode cX6_keywordOf 21 = .ok ((.ldc 80), 2) := by decide +kernel
theorem dX6_keywordOf_23 : decode cX6_keywordOf 23 = .ok ((.iload 6), 2) := by decide +kernel
theorem dX6_keywordOf_25 : decode cX6_keywordOf 25 = .ok ((.invokevirtual 87), 3) := by decide +kernel
theorem dX6_keywordOf_28 : decode cX6_keywordOf 28 = .ok ((.istore 7), 2) := by decide +kernel
theorem dX6_keywordOf_30 : decode cX6_keywordOf 30 = .ok ((.iload 7), 2) := by decide +kernel
theorem dX6_keywordOf_32 : decode cX6_keywordOf 32 = .ok ((.bipush 32), 2) := by decide +kernel
theorem dX6_keywordOf_34 : decode cX6_keywordOf 34 = .ok ((.if_icmp .eq 38), 3) := by decide +kernel
theorem dX6_keywordOf_37 : decode cX6_keywordOf 37 = .ok ((.iload 5), 2) := by decide +kernel
theorem dX6_keywordOf_39 : decode cX6_keywordOf 39 = .ok ((.ifCond .eq 24), 3) := by decide +kernel
theorem dX6_keywordOf_42 : decode cX6_keywordOf 42 = .ok ((.iload 4), 2) := by decide +kernel
theorem dX6_keywordOf_44 : decode cX6_keywordOf 44 = .ok ((.iload_n 2), 1) := by decide +kernel
theorem dX6_keywordOf_45 : decode cX6_keywordOf 45 = .ok ((.if_icmp .ge 18), 3) := by decide +kernel
theorem dX6_keywordOf_48 : decode cX6_keywordOf 48 = .ok ((.aload_n 0), 1) := by decide +kernel
theorem dX6_keywordOf_49 : decode cX6_keywordOf 49 = .ok ((.iload 4), 2) := by decide +kernel
theorem dX6_keywordOf_51 : decode cX6_keywordOf 51 = .ok ((.invokevirtual 33), 3) := by decide +kernel
theorem dX6_keywordOf_54 : decode cX6_keywordOf 54 = .ok ((.iload 7), 2) := by decide +kernel
theorem dX6_keywordOf_56 : decode cX6_keywordOf 56 = .ok ((.if_icmp .ne 7), 3) := by decide +kernel
theorem dX6_keywordOf_59 : decode cX6_keywordOf 59 = .ok ((.iconst 1), 1) := by decide +kernel
theorem dX6_keywordOf_60 : decode cX6_keywordOf 60 = .ok ((.goto 4), 3) := by decide +kernel
theorem dX6_keywordOf_63 : decode cX6_keywordOf 63 = .ok ((.iconst 0), 1) := by decide +kernel
theorem dX6_keywordOf_64 : decode cX6_keywordOf 64 = .ok ((.istore 5), 2) := by decide +kernel
theorem dX6_keywordOf_66 : decode cX6_keywordOf 66 = .ok ((.iinc 4 1), 3) := by decide +kernel
theorem dX6_keywordOf_69 : decode cX6_keywordOf 69 = .ok ((.goto 25), 3) := by decide +kernel
theorem dX6_keywordOf_72 : decode cX6_keywordOf 72 = .ok ((.iload 5), 2) := by decide +kernel
theorem dX6_keywordOf_74 : decode cX6_keywordOf 74 = .ok ((.ifCond .eq 11), 3) := by decide +kernel
theorem dX6_keywordOf_77 : decode cX6_keywordOf 77 = .ok ((.iload 4), 2) := by decide +kernel
theorem dX6_keywordOf_79 : decode cX6_keywordOf 79 = .ok ((.iload_n 2), 1) := by decide +kernel
theorem dX6_keywordOf_80 : decode cX6_keywordOf 80 = .ok ((.if_icmp .ne 5), 3) := by decide +kernel
theorem dX6_keywordOf_83 : decode cX6_keywordOf 83 = .ok ((.iload_n 3), 1) := by decide +kernel
theorem dX6_keywordOf_84 : decode cX6_keywordOf 84 = .ok (.ireturn, 1) := by decide +kernel
theorem dX6_keywordOf_85 : decode cX6_keywordOf 85 = .ok ((.iinc 3 1), 3) := by decide +kernel
theorem dX6_keywordOf_88 : decode cX6_keywordOf 88 = .ok ((.iload_n 1), 1) := by decide +kernel
theorem dX6_keywordOf_89 : decode cX6_keywordOf 89 = .ok ((.istore 4), 2) := by decide +kernel
theorem dX6_keywordOf_91 : decode cX6_keywordOf 91 = .ok ((.iconst 1), 1) := by decide +kernel
theorem dX6_keywordOf_92 : decode cX6_keywordOf 92 = .ok ((.istore 5), 2) := by decide +kernel
theorem dX6_keywordOf_94 : decode cX6_keywordOf 94 = .ok ((.iinc 6 1), 3) := by decide +kernel
theorem dX6_keywordOf_97 : decode cX6_keywordOf 97 = .ok ((.goto (-86)), 3) := by decide +kernel
theorem dX6_keywordOf_100 : decode cX6_keywordOf 100 = .ok ((.iconst (-1)), 1) := by decide +kernel
theorem dX6_keywordOf_101 : decode cX6_keywordOf 101 = .ok (.ireturn, 1) := by decide +kernel
def p_X6_keywordOf_94  (a1 : Int32) (a2 : Int32)  (K11 : vSt → Int32 → Int32 → Bool → Int32 → Prop) (post : Int32 → vSt → Prop) (S : vSt) (x3 : Int32) (x4 : Int32) (x5 : Bool) (x6 : Int32) : Prop := ∀ y21 : Int32, y21 = x6 + 1 → K11 S x3 x4 x5 y21
def p_X6_keywordOf_85  (a1 : Int32) (a2 : Int32)  (K11 : vSt → Int32 → Int32 → Bool → Int32 → Prop) (post : Int32 → vSt → Prop) (S : vSt) (x3 : Int32) (x6 : Int32) : Prop := ∀ y20 : Int32, y20 = x3 + 1 → p_X6_keywordOf_94 a1 a2 K11 post S y20 a1 true x6
def p_X6_keywordOf_64  (a1 : Int32) (a2 : Int32)  (K11 : vSt → Int32 → Int32 → Bool → Int32 → Prop) (post : Int32 → vSt → Prop) (S : vSt) (x3 : Int32) (x4 : Int32) (x6 : Int32) (s0 : Bool) : Prop := ∀ y20 : Int32, y20 = x4 + 1 → p_X6_keywordOf_94 a1 a2 K11 post S x3 y20 s0 x6
def p_X6_keywordOf_63  (a1 : Int32) (a2 : Int32)  (K11 : vSt → Int32 → Int32 → Bool → Int32 → Prop) (post : Int32 → vSt → Prop) (S : vSt) (x3 : Int32) (x4 : Int32) (x6 : Int32) : Prop := p_X6_keywordOf_64 a1 a2 K11 post S x3 x4 x6 false
def p_X6_keywordOf_11  (a1 : Int32) (a2 : Int32)   (post : Int32 → vSt → Prop) : Nat → vSt → Int32 → Int32 → Bool → Int32 → Prop
  | 0 => fun _ _ _ _ _ => False
  | fu11 + 1 => fun S x3 x4 x5 x6 => ((120 ≤ x6 → post (-1) S) ∧ (¬ 120 ≤ x6 → (vp_in x6 120 ∧ ∀ y19 : Int32, y19 = (v_kw.getD (Int32.toNatClampNeg x6) 0) → ((y19 = 32 → ((x5 = false → p_X6_keywordOf_85 a1 a2 (p_X6_keywordOf_11 a1 a2 post fu11) post S x3 x6) ∧ (x5 = true → ((¬ x4 = a2 → p_X6_keywordOf_85 a1 a2 (p_X6_keywordOf_11 a1 a2 post fu11) post S x3 x6) ∧ (x4 = a2 → post x3 S))))) ∧ (¬ y19 = 32 → ((x5 = false → p_X6_keywordOf_63 a1 a2 (p_X6_keywordOf_11 a1 a2 post fu11) post S x3 x4 x6) ∧ (x5 = true → ((a2 ≤ x4 → p_X6_keywordOf_63 a1 a2 (p_X6_keywordOf_11 a1 a2 post fu11) post S x3 x4 x6) ∧ (¬ a2 ≤ x4 → p_X6_byteAt  S x4 (fun r21 S20 => ((¬ r21 = y19 → p_X6_keywordOf_63 a1 a2 (p_X6_keywordOf_11 a1 a2 post fu11) post S20 x3 x4 x6) ∧ (r21 = y19 → p_X6_keywordOf_64 a1 a2 (p_X6_keywordOf_11 a1 a2 post fu11) post S20 x3 x4 x6 true))))))))))))
theorem e_X6_keywordOf_11  (a1 : Int32) (a2 : Int32)   (post : Int32 → vSt → Prop) (fu11 : Nat) (S : vSt) (x3 : Int32) (x4 : Int32) (x5 : Bool) (x6 : Int32) : p_X6_keywordOf_11 a1 a2 post (fu11 + 1) S x3 x4 x5 x6 = (((120 ≤ x6 → post (-1) S) ∧ (¬ 120 ≤ x6 → (vp_in x6 120 ∧ ∀ y19 : Int32, y19 = (v_kw.getD (Int32.toNatClampNeg x6) 0) → ((y19 = 32 → ((x5 = false → p_X6_keywordOf_85 a1 a2 (p_X6_keywordOf_11 a1 a2 post fu11) post S x3 x6) ∧ (x5 = true → ((¬ x4 = a2 → p_X6_keywordOf_85 a1 a2 (p_X6_keywordOf_11 a1 a2 post fu11) post S x3 x6) ∧ (x4 = a2 → post x3 S))))) ∧ (¬ y19 = 32 → ((x5 = false → p_X6_keywordOf_63 a1 a2 (p_X6_keywordOf_11 a1 a2 post fu11) post S x3 x4 x6) ∧ (x5 = true → ((a2 ≤ x4 → p_X6_keywordOf_63 a1 a2 (p_X6_keywordOf_11 a1 a2 post fu11) post S x3 x4 x6) ∧ (¬ a2 ≤ x4 → p_X6_byteAt  S x4 (fun r21 S20 => ((¬ r21 = y19 → p_X6_keywordOf_63 a1 a2 (p_X6_keywordOf_11 a1 a2 post fu11) post S20 x3 x4 x6) ∧ (r21 = y19 → p_X6_keywordOf_64 a1 a2 (p_X6_keywordOf_11 a1 a2 post fu11) post S20 x3 x4 x6 true))))))))))))) := rfl
def p_X6_keywordOf   (S : vSt) (a1 : Int32) (a2 : Int32) (post : Int32 → vSt → Prop) : Prop := ∃ fu11, p_X6_keywordOf_11 a1 a2 post fu11 S 0 a1 true 0
set_option maxHeartbeats 4000000 in
set_option maxRecDepth 100000 in
theorem q_X6_keywordOf_94 {X : vX} {G : vG}  {post : Int32 → vSt → Prop} (C : v_Cx X G cX6_keywordOf RX6 8 (v_rm 4 220)) (D : v_Rx X G (v_Qi G post) (some .int))  {a1 : Int32} {a2 : Int32}  {K11 : vSt → Int32 → Int32 → Bool → Int32 → Prop} (hK11 : ∀ S x3 x4 x5 x6, K11 S x3 x4 x5 x6 → VJ X G S 11 [(0, .ref (G.1 5)), (1, .int a1), (2, .int a2), (3, .int x3), (4, .int x4), (5, .int (v_b x5)), (6, .int x6)] []) : ∀ (S : vSt) (x3 : Int32) (x4 : Int32) (x5 : Bool) (x6 : Int32), p_X6_keywordOf_94 a1 a2 K11 post S x3 x4 x5 x6 → VJ X G S 94 [(0, .ref (G.1 5)), (1, .int a1), (2, .int a2), (3, .int x3), (4, .int x4), (5, .int (v_b x5)), (6, .int x6)] [] := by
  intro S x3 x4 x5 x6 h
  obtain ⟨y21, ey21⟩ : ∃ z : Int32, z = x6 + 1 := ⟨_, rfl⟩
  have h := h y21 ey21
  refine V_iinc (lv' := [(0, .ref (G.1 5)), (1, .int a1), (2, .int a2), (3, .int x3), (4, .int x4), (5, .int (v_b x5)), (6, .int y21)]) C 6 [1, 2, 3, 4, 5, 6, 0] y21 dX6_keywordOf_94 rfl (by rw [ey21]; rfl) (by decide) rfl ?_
  refine V_goto (tgt := 11) C dX6_keywordOf_97 (by decide) ?_
  exact hK11 _ _ _ _ _ h
set_option maxHeartbeats 4000000 in
set_option maxRecDepth 100000 in
theorem q_X6_keywordOf_85 {X : vX} {G : vG}  {post : Int32 → vSt → Prop} (C : v_Cx X G cX6_keywordOf RX6 8 (v_rm 4 220)) (D : v_Rx X G (v_Qi G post) (some .int))  {a1 : Int32} {a2 : Int32}  {K11 : vSt → Int32 → Int32 → Bool → Int32 → Prop} (hK11 : ∀ S x3 x4 x5 x6, K11 S x3 x4 x5 x6 → VJ X G S 11 [(0, .ref (G.1 5)), (1, .int a1), (2, .int a2), (3, .int x3), (4, .int x4), (5, .int (v_b x5)), (6, .int x6)] []) : ∀ (S : vSt) (x3 : Int32) (x6 : Int32), p_X6_keywordOf_85 a1 a2 K11 post S x3 x6 → VJ X G S 85 [(0, .ref (G.1 5)), (1, .int a1), (2, .int a2), (3, .int x3), (6, .int x6)] [] := by
  intro S x3 x6 h
  obtain ⟨y20, ey20⟩ : ∃ z : Int32, z = x3 + 1 := ⟨_, rfl⟩
  have h := h y20 ey20
  refine V_iinc (lv' := [(0, .ref (G.1 5)), (1, .int a1), (2, .int a2), (3, .int y20), (6, .int x6)]) C 3 [1, 2, 3, 0, 4] y20 dX6_keywordOf_85 rfl (by rw [ey20]; rfl) (by decide) rfl ?_
  refine V_iload_n C 1 dX6_keywordOf_88 rfl rfl ?_
  refine V_istore (lv' := [(0, .ref (G.1 5)), (1, .int a1), (2, .int a2), (3, .int y20), (4, .int a1), (6, .int x6)]) C [1, 2, 3, 4, 0, 5] dX6_keywordOf_89 (by decide) rfl ?_
  refine V_iconst (v := 1) C dX6_keywordOf_91 (by decide) ?_
  refine V_istore (lv' := [(0, .ref (G.1 5)), (1, .int a1), (2, .int a2), (3, .int y20), (4, .int a1), (5, .int 1), (6, .int x6)]) C [1, 2, 3, 4, 5, 0, 6] dX6_keywordOf_92 (by decide) rfl ?_
  exact q_X6_keywordOf_94 C D hK11 _ _ _ _ _ h
set_option maxHeartbeats 4000000 in
set_option maxRecDepth 100000 in
theorem q_X6_keywordOf_64 {X : vX} {G : vG}  {post : Int32 → vSt → Prop} (C : v_Cx X G cX6_keywordOf RX6 8 (v_rm 4 220)) (D : v_Rx X G (v_Qi G post) (some .int))  {a1 : Int32} {a2 : Int32}  {K11 : vSt → Int32 → Int32 → Bool → Int32 → Prop} (hK11 : ∀ S x3 x4 x5 x6, K11 S x3 x4 x5 x6 → VJ X G S 11 [(0, .ref (G.1 5)), (1, .int a1), (2, .int a2), (3, .int x3), (4, .int x4), (5, .int (v_b x5)), (6, .int x6)] []) : ∀ (S : vSt) (x3 : Int32) (x4 : Int32) (x6 : Int32) (s0 : Bool), p_X6_keywordOf_64 a1 a2 K11 post S x3 x4 x6 s0 → VJ X G S 64 [(0, .ref (G.1 5)), (1, .int a1), (2, .int a2), (3, .int x3), (4, .int x4), (6, .int x6)] [.int (v_b s0)] := by
  intro S x3 x4 x6 s0 h
  refine V_istore (lv' := [(0, .ref (G.1 5)), (1, .int a1), (2, .int a2), (3, .int x3), (4, .int x4), (5, .int (v_b s0)), (6, .int x6)]) C [1, 2, 3, 4, 5, 0, 6] dX6_keywordOf_64 (by decide) rfl ?_
  obtain ⟨y20, ey20⟩ : ∃ z : Int32, z = x4 + 1 := ⟨_, rfl⟩
  have h := h y20 ey20
  refine V_iinc (lv' := [(0, .ref (G.1 5)), (1, .int a1), (2, .int a2), (3, .int x3), (4, .int y20), (5, .int (v_b s0)), (6, .int x6)]) C 4 [1, 2, 3, 4, 0, 5, 6] y20 dX6_keywordOf_66 rfl (by rw [ey20]; rfl) (by decide) rfl ?_
  refine V_goto (tgt := 94) C dX6_keywordOf_69 (by decide) ?_
  exact q_X6_keywordOf_94 C D hK11 _ _ _ _ _ h
set_option maxHeartbeats 4000000 in
set_option maxRecDepth 100000 in
theorem q_X6_keywordOf_63 {X : vX} {G : vG}  {post : Int32 → vSt → Prop} (C : v_Cx X G cX6_keywordOf RX6 8 (v_rm 4 220)) (D : v_Rx X G (v_Qi G post) (some .int))  {a1 : Int32} {a2 : Int32}  {K11 : vSt → Int32 → Int32 → Bool → Int32 → Prop} (hK11 : ∀ S x3 x4 x5 x6, K11 S x3 x4 x5 x6 → VJ X G S 11 [(0, .ref (G.1 5)), (1, .int a1), (2, .int a2), (3, .int x3), (4, .int x4), (5, .int (v_b x5)), (6, .int x6)] []) : ∀ (S : vSt) (x3 : Int32) (x4 : Int32) (x6 : Int32), p_X6_keywordOf_63 a1 a2 K11 post S x3 x4 x6 → VJ X G S 63 [(0, .ref (G.1 5)), (1, .int a1), (2, .int a2), (3, .int x3), (4, .int x4), (6, .int x6)] [] := by
  intro S x3 x4 x6 h
  refine V_iconst (v := 0) C dX6_keywordOf_63 (by decide) ?_
  exact q_X6_keywordOf_64 C D hK11 _ _ _ _ _ h
set_option maxHeartbeats 4000000 in
set_option maxRecDepth 100000 in
theorem q_X6_keywordOf_11 {X : vX} {G : vG}  {post : Int32 → vSt → Prop} (C : v_Cx X G cX6_keywordOf RX6 8 (v_rm 4 220)) (D : v_Rx X G (v_Qi G post) (some .int))  {a1 : Int32} {a2 : Int32}   : ∀ (fu : Nat) (S : vSt) (x3 : Int32) (x4 : Int32) (x5 : Bool) (x6 : Int32), p_X6_keywordOf_11 a1 a2 post fu S x3 x4 x5 x6 → VJ X G S 11 [(0, .ref (G.1 5)), (1, .int a1), (2, .int a2), (3, .int x3), (4, .int x4), (5, .int (v_b x5)), (6, .int x6)] [] := by
  intro fu
  induction fu with
  | zero => intro S x3 x4 x5 x6 h; exact absurd h id
  | succ fu ih =>
    intro S x3 x4 x5 x6 h
    have hK11 := ih
    rw [e_X6_keywordOf_11] at h
    refine V_iload C 6 dX6_keywordOf_11 rfl ?_
    refine V_kldc C (tx := "") rfl rfl dX6_keywordOf_13 ?_
    refine V_callKi (As := []) (rest := [.int x6]) C (c_strlen (v_l X) G (fun r S1 => r = 120 ∧ S1 = S) ⟨rfl, rfl⟩) KV_J0_length_8abf5 k_RX6_82 rfl rfl rfl (Nat.le_of_ble_eq_true rfl) ⟨Nat.le_of_ble_eq_true rfl, Nat.le_of_ble_eq_true rfl⟩ dX6_keywordOf_15 (fun r S1 h0 => ?_)
    obtain ⟨rfl, rfl⟩ := h0
    refine V_icmp_ge (tgt := 100) C dX6_keywordOf_18 (by decide) (fun c => ?_) (fun c => ?_)
    · have h := h.1 c
      refine V_iconst (v := (-1)) C dX6_keywordOf_100 (by decide) ?_
      exact V_iret C D dX6_keywordOf_101 h
    · have h := h.2 c
      refine V_kldc C (tx := "") rfl rfl dX6_keywordOf_21 ?_
      refine V_iload C 6 dX6_keywordOf_23 rfl ?_
      obtain ⟨hi, h⟩ := h
      refine V_callKi (As := [.int x6]) (rest := []) C (c_charAt (v_l X) G hi (fun r S1 => r = (v_kw.getD (Int32.toNatClampNeg x6) 0) ∧ S1 = S) ⟨rfl, rfl⟩) KV_J0_charAt_5068e k_RX6_87 rfl rfl rfl (Nat.le_of_ble_eq_true rfl) ⟨Nat.le_of_ble_eq_true rfl, Nat.le_of_ble_eq_true rfl⟩ dX6_keywordOf_25 (fun r S1 h0 => ?_)
      obtain ⟨rfl, rfl⟩ := h0
      refine V_topi (fun y19 ey19 => ?_)
      have h := h y19 ey19
      refine V_istore (lv' := [(0, .ref (G.1 5)), (1, .int a1), (2, .int a2), (3, .int x3), (4, .int x4), (5, .int (v_b x5)), (6, .int x6), (7, .int y19)]) C [1, 2, 3, 4, 5, 6, 7, 0] dX6_keywordOf_28 (by decide) rfl ?_
      refine V_iload C 7 dX6_keywordOf_30 rfl ?_
      refine V_bipush (v := 32) C dX6_keywordOf_32 (by decide) ?_
      refine V_icmp_eq (tgt := 72) C dX6_keywordOf_34 (by decide) (fun c => ?_) (fun c => ?_)
      · have h := h.1 c
        refine V_iload C 5 dX6_keywordOf_72 rfl ?_
        refine V_ifb_eq (tgt := 85) C dX6_keywordOf_74 (by decide) (fun c => ?_) (fun c => ?_)
        · have h := h.1 c
          refine V_loc (lv' := [(0, .ref (G.1 5)), (1, .int a1), (2, .int a2), (3, .int x3), (6, .int x6)]) [0, 1, 2, 3, 6] rfl ?_
          exact q_X6_keywordOf_85 C D hK11 _ _ _ h
        · have h := h.2 c
          refine V_iload C 4 dX6_keywordOf_77 rfl ?_
          refine V_iload_n C 2 dX6_keywordOf_79 rfl rfl ?_
          refine V_icmp_ne (tgt := 85) C dX6_keywordOf_80 (by decide) (fun c => ?_) (fun c => ?_)
          · have h := h.1 c
            refine V_loc (lv' := [(0, .ref (G.1 5)), (1, .int a1), (2, .int a2), (3, .int x3), (6, .int x6)]) [0, 1, 2, 3, 6] rfl ?_
            exact q_X6_keywordOf_85 C D hK11 _ _ _ h
          · have h := h.2 c
            refine V_iload_n C 3 dX6_keywordOf_83 rfl rfl ?_
            exact V_iret C D dX6_keywordOf_84 h
      · have h := h.2 c
        refine V_iload C 5 dX6_keywordOf_37 rfl ?_
        refine V_ifb_eq (tgt := 63) C dX6_keywordOf_39 (by decide) (fun c => ?_) (fun c => ?_)
        · have h := h.1 c
          refine V_loc (lv' := [(0, .ref (G.1 5)), (1, .int a1), (2, .int a2), (3, .int x3), (4, .int x4), (6, .int x6)]) [0, 1, 2, 3, 4, 6] rfl ?_
          exact q_X6_keywordOf_63 C D hK11 _ _ _ _ h
        · have h := h.2 c
          refine V_iload C 4 dX6_keywordOf_42 rfl ?_
          refine V_iload_n C 2 dX6_keywordOf_44 rfl rfl ?_
          refine V_icmp_ge (tgt := 63) C dX6_keywordOf_45 (by decide) (fun c => ?_) (fun c => ?_)
          · have h := h.1 c
            refine V_loc (lv' := [(0, .ref (G.1 5)), (1, .int a1), (2, .int a2), (3, .int x3), (4, .int x4), (6, .int x6)]) [0, 1, 2, 3, 4, 6] rfl ?_
            exact q_X6_keywordOf_63 C D hK11 _ _ _ _ h
          · have h := h.2 c
            refine V_aload_n C 0 dX6_keywordOf_48 rfl rfl ?_
            refine V_iload C 4 dX6_keywordOf_49 rfl ?_
            refine V_callVi (As := [.int x4]) (rest := []) C (c_X6_byteAt (v_l X) G  _ _ h) 5 6 (by decide) (by decide) (by decide) rfl KV_X6_byteAt k_RX6_33 rfl rfl rfl (Nat.le_of_ble_eq_true rfl) ⟨Nat.le_of_ble_eq_true rfl, Nat.le_of_ble_eq_true rfl⟩ dX6_keywordOf_51 (fun r21 S20 h => ?_)
            refine V_iload C 7 dX6_keywordOf_54 rfl ?_
            refine V_icmp_ne (tgt := 63) C dX6_keywordOf_56 (by decide) (fun c => ?_) (fun c => ?_)
            · have h := h.1 c
              refine V_loc (lv' := [(0, .ref (G.1 5)), (1, .int a1), (2, .int a2), (3, .int x3), (4, .int x4), (6, .int x6)]) [0, 1, 2, 3, 4, 6] rfl ?_
              exact q_X6_keywordOf_63 C D hK11 _ _ _ _ h
            · have h := h.2 c
              refine V_iconst (v := 1) C dX6_keywordOf_59 (by decide) ?_
              refine V_goto (tgt := 64) C dX6_keywordOf_60 (by decide) ?_
              refine V_loc (lv' := [(0, .ref (G.1 5)), (1, .int a1), (2, .int a2), (3, .int x3), (4, .int x4), (6, .int x6)]) [0, 1, 2, 3, 4, 6] rfl ?_
              exact q_X6_keywordOf_64 C D hK11 _ _ _ _ _ h
set_option maxHeartbeats 4000000 in
set_option maxRecDepth 100000 in
theorem c_X6_keywordOf (l : Launch) (G : vG)    {S : vSt} (a1 : Int32) (a2 : Int32) (post : Int32 → vSt → Prop) (h : p_X6_keywordOf   S a1 a2 post) : Met l yX6_keywordOf (v_ws yX6_keywordOf cX6_keywordOf 8 (some .int)) (v_rm 4 220) (v_Pc G [.ref (G.1 5), .int a1, .int a2] S) (v_Qi G post) 0 0 (v_A G) := by
  refine v_start (by decide +kernel) (Nat.le_of_ble_eq_true rfl) (fun X hl C D => ?_)
  subst hl
  have C : v_Cx X G cX6_keywordOf RX6 8 (v_rm 4 220) := C
  show VJ X G S 0 [(0, .ref (G.1 5)), (1, .int a1), (2, .int a2)] []
  refine V_iconst (v := 0) C dX6_keywordOf_0 (by decide) ?_
  refine V_istore_n (lv' := [(0, .ref (G.1 5)), (1, .int a1), (2, .int a2), (3, .int 0)]) C [1, 2, 3, 0] dX6_keywordOf_1 rfl (by decide) rfl ?_
  refine V_iload_n C 1 dX6_keywordOf_2 rfl rfl ?_
  refine V_istore (lv' := [(0, .ref (G.1 5)), (1, .int a1), (2, .int a2), (3, .int 0), (4, .int a1)]) C [1, 2, 3, 4, 0] dX6_keywordOf_3 (by decide) rfl ?_
  refine V_iconst (v := 1) C dX6_keywordOf_5 (by decide) ?_
  refine V_istore (lv' := [(0, .ref (G.1 5)), (1, .int a1), (2, .int a2), (3, .int 0), (4, .int a1), (5, .int 1)]) C [1, 2, 3, 4, 5, 0] dX6_keywordOf_6 (by decide) rfl ?_
  refine V_iconst (v := 0) C dX6_keywordOf_8 (by decide) ?_
  refine V_istore (lv' := [(0, .ref (G.1 5)), (1, .int a1), (2, .int a2), (3, .int 0), (4, .int a1), (5, .int 1), (6, .int 0)]) C [1, 2, 3, 4, 5, 6, 0] dX6_keywordOf_9 (by decide) rfl ?_
  obtain ⟨fu11, h⟩ := h
  exact q_X6_keywordOf_11 C D  fu11 _ _ _ _ _ h
/-! HalfAccuser$Tape.addWord(II)V -/
theorem dX6_addWord_0 : decode cX6_addWord 0 = .ok ((.aload_n 0), 1) := by decide +kernel
theorem dX6_addWord_1 : decode cX6_addWord 1 = .ok ((.iload_n 1), 1) := by decide +kernel
theorem dX6_addWord_2 : decode cX6_addWord 2 = .ok ((.iload_n 2), 1) := by decide +kernel
theorem dX6_addWord_3 : decode cX6_addWord 3 = .ok ((.invokevirtual 72), 3) := by decide +kernel
theorem dX6_addWord_6 : decode cX6_addWord 6 = .ok ((.istore_n 3), 1) := by decide +kernel
theorem dX6_addWord_7 : decode cX6_addWord 7 = .ok ((.iload_n 3), 1) := by decide +kernel
theorem dX6_addWord_8 : decode cX6_addWord 8 = .ok ((.iconst (-1)), 1) := by decide +kernel
theorem dX6_addWord_9 : decode cX6_addWord 9 = .ok ((.if_icmp .eq 14), 3) := by decide +kernel
theorem dX6_addWord_12 : decode cX6_addWord 12 = .ok ((.aload_n 0), 1) := by decide +kernel
theorem dX6_addWord_13 : decode cX6_addWord 13 = .ok ((.iconst 2), 1) := by decide +kernel
theorem dX6_addWord_14 : decode cX6_addWord 14 = .ok ((.iload_n 1), 1) := by decide +kernel
theorem dX6_addWord_15 : decode cX6_addWord 15 = .ok ((.iload_n 3), 1) := by decide +kernel
theorem dX6_addWord_16 : decode cX6_addWord 16 = .ok (.i2l, 1) := by decide +kernel
theorem dX6_addWord_17 : decode cX6_addWord 17 = .ok ((.invokevirtual 55), 3) := by decide +kernel
theorem dX6_addWord_20 : decode cX6_addWord 20 = .ok ((.goto 33), 3) := by decide +kernel
theorem dX6_addWord_23 : decode cX6_addWord 23 = .ok ((.iload_n 2), 1) := by decide +kernel
theorem dX6_addWord_24 : decode cX6_addWord 24 = .ok ((.iload_n 1), 1) := by decide +kernel
theorem dX6_addWord_25 : decode cX6_addWord 25 = .ok (.isub, 1) := by decide +kernel
theorem dX6_addWord_26 : decode cX6_addWord 26 = .ok ((.bipush 8), 2) := by decide +kernel
theorem dX6_addWord_28 : decode cX6_addWord 28 = .ok ((.if_icmp .le 13), 3) := by decide +kernel
theorem dX6_addWord_31 : decode cX6_addWord 31 = .ok ((.aload_n 0), 1) := by decide +kernel
theorem dX6_addWord_32 : decode cX6_addWord 32 = .ok ((.iconst 4), 1) := by decide +kernel
theorem dX6_addWord_33 : decode cX6_addWord 33 = .ok ((.iload_n 1), 1) := by decide +kernel
theorem dX6_addWord_34 : decode cX6_addWord 34 = .ok ((.lconst 0), 1) := by decide +kernel
theorem dX6_addWord_35 : decode cX6_addWord 35 = .ok ((.invokevirtual 55), 3) := by decide +kernel
theorem dX6_addWord_38 : decode cX6_addWord 38 = .ok ((.goto 15), 3) := by decide +kernel
theorem dX6_addWord_41 : decode cX6_addWord 41 = .ok ((.aload_n 0), 1) := by decide +kernel
theorem dX6_addWord_42 : decode cX6_addWord 42 = .ok ((.iconst 3), 1) := by decide +kernel
theorem dX6_addWord_43 : decode cX6_addWord 43 = .ok ((.iload_n 1), 1) := by decide +kernel
theorem dX6_addWord_44 : decode cX6_addWord 44 = .ok ((.aload_n 0), 1) := by decide +kernel
theorem dX6_addWord_45 : decode cX6_addWord 45 = .ok ((.iload_n 1), 1) := by decide +kernel
theorem dX6_addWord_46 : decode cX6_addWord 46 = .ok ((.iload_n 2), 1) := by decide +kernel
theorem dX6_addWord_47 : decode cX6_addWord 47 = .ok ((.invokevirtual 76), 3) := by decide +kernel
theorem dX6_addWord_50 : decode cX6_addWord 50 = .ok ((.invokevirtual 55), 3) := by decide +kernel
theorem dX6_addWord_53 : decode cX6_addWord 53 = .ok (.return_, 1) := by decide +kernel
def p_X6_addWord   (S : vSt) (a1 : Int32) (a2 : Int32) (post : vSt → Prop) : Prop := p_X6_keywordOf  S a1 a2 (fun r9 S8 => ((r9 = (-1) → (((a2 - a1) ≤ 8 → p_X6_nameOf  S8 a1 a2 (fun r11 S10 => p_X6_addToken  S10 3 a1 r11 (fun S12 => post S12))) ∧ (¬ (a2 - a1) ≤ 8 → p_X6_addToken  S8 4 a1 0 (fun S13 => post S13)))) ∧ (¬ r9 = (-1) → p_X6_addToken  S8 2 a1 (Int32.toInt64 r9) (fun S14 => post S14))))
set_option maxHeartbeats 4000000 in
set_option maxRecDepth 100000 in
theorem c_X6_addWord (l : Launch) (G : vG)    {S : vSt} (a1 : Int32) (a2 : Int32) (post : vSt → Prop) (h : p_X6_addWord   S a1 a2 post) : Met l yX6_addWord (v_ws yX6_addWord cX6_addWord 4 none) (v_rm 5 247) (v_Pc G [.ref (G.1 5), .int a1, .int a2] S) (v_Qv G post) 0 0 (v_A G) := by
  refine v_start (by decide +kernel) (Nat.le_of_ble_eq_true rfl) (fun X hl C D => ?_)
  subst hl
  have C : v_Cx X G cX6_addWord RX6 4 (v_rm 5 247) := C
  show VJ X G S 0 [(0, .ref (G.1 5)), (1, .int a1), (2, .int a2)] []
  refine V_aload_n C 0 dX6_addWord_0 rfl rfl ?_
  refine V_iload_n C 1 dX6_addWord_1 rfl rfl ?_
  refine V_iload_n C 2 dX6_addWord_2 rfl rfl ?_
  refine V_callVi (As := [.int a1, .int a2]) (rest := []) C (c_X6_keywordOf (v_l X) G  _ _ _ h) 5 6 (by decide) (by decide) (by decide) rfl KV_X6_keywordOf k_RX6_72 rfl rfl rfl (Nat.le_of_ble_eq_true rfl) ⟨Nat.le_of_ble_eq_true rfl, Nat.le_of_ble_eq_true rfl⟩ dX6_addWord_3 (fun r9 S8 h => ?_)
  refine V_istore_n (lv' := [(0, .ref (G.1 5)), (1, .int a1), (2, .int a2), (3, .int r9)]) C [1, 2, 3, 0] dX6_addWord_6 rfl (by decide) rfl ?_
  refine V_iload_n C 3 dX6_addWord_7 rfl rfl ?_
  refine V_iconst (v := (-1)) C dX6_addWord_8 (by decide) ?_
  refine V_icmp_eq (tgt := 23) C dX6_addWord_9 (by decide) (fun c => ?_) (fun c => ?_)
  · have h := h.1 c
    refine V_iload_n C 2 dX6_addWord_23 rfl rfl ?_
    refine V_iload_n C 1 dX6_addWord_24 rfl rfl ?_
    refine V_isub C dX6_addWord_25 ?_
    refine V_bipush (v := 8) C dX6_addWord_26 (by decide) ?_
    refine V_icmp_le (tgt := 41) C dX6_addWord_28 (by decide) (fun c => ?_) (fun c => ?_)
    · have h := h.1 c
      refine V_aload_n C 0 dX6_addWord_41 rfl rfl ?_
      refine V_iconst (v := 3) C dX6_addWord_42 (by decide) ?_
      refine V_iload_n C 1 dX6_addWord_43 rfl rfl ?_
      refine V_aload_n C 0 dX6_addWord_44 rfl rfl ?_
      refine V_iload_n C 1 dX6_addWord_45 rfl rfl ?_
      refine V_iload_n C 2 dX6_addWord_46 rfl rfl ?_
      refine V_callVl (As := [.int a1, .int a2]) (rest := [.int a1, .int 3, .ref (G.1 5)]) C (c_X6_nameOf (v_l X) G  _ _ _ h) 5 6 (by decide) (by decide) (by decide) rfl KV_X6_nameOf k_RX6_76 rfl rfl rfl (Nat.le_of_ble_eq_true rfl) ⟨Nat.le_of_ble_eq_true rfl, Nat.le_of_ble_eq_true rfl⟩ dX6_addWord_47 (fun r11 S10 h => ?_)
      refine V_callVv (As := [.int 3, .int a1, .long r11]) (rest := []) C (c_X6_addToken (v_l X) G  _ _ _ _ h) 5 6 (by decide) (by decide) (by decide) rfl KV_X6_addToken k_RX6_55 rfl rfl rfl (Nat.le_of_ble_eq_true rfl) ⟨Nat.le_of_ble_eq_true rfl, Nat.le_of_ble_eq_true rfl⟩ dX6_addWord_50 (fun S12 h => ?_)
      exact V_vret C D dX6_addWord_53 h
    · have h := h.2 c
      refine V_aload_n C 0 dX6_addWord_31 rfl rfl ?_
      refine V_iconst (v := 4) C dX6_addWord_32 (by decide) ?_
      refine V_iload_n C 1 dX6_addWord_33 rfl rfl ?_
      refine V_lconst (v := 0) C dX6_addWord_34 (by decide) ?_
      refine V_callVv (As := [.int 4, .int a1, .long 0]) (rest := []) C (c_X6_addToken (v_l X) G  _ _ _ _ h) 5 6 (by decide) (by decide) (by decide) rfl KV_X6_addToken k_RX6_55 rfl rfl rfl (Nat.le_of_ble_eq_true rfl) ⟨Nat.le_of_ble_eq_true rfl, Nat.le_of_ble_eq_true rfl⟩ dX6_addWord_35 (fun S13 h => ?_)
      refine V_goto (tgt := 53) C dX6_addWord_38 (by decide) ?_
      exact V_vret C D dX6_addWord_53 h
  · have h := h.2 c
    refine V_aload_n C 0 dX6_addWord_12 rfl rfl ?_
    refine V_iconst (v := 2) C dX6_addWord_13 (by decide) ?_
    refine V_iload_n C 1 dX6_addWord_14 rfl rfl ?_
    refine V_iload_n C 3 dX6_addWord_15 rfl rfl ?_
    refine V_i2l C dX6_addWord_16 ?_
    refine V_callVv (As := [.int 2, .int a1, .long (Int32.toInt64 r9)]) (rest := []) C (c_X6_addToken (v_l X) G  _ _ _ _ h) 5 6 (by decide) (by decide) (by decide) rfl KV_X6_addToken k_RX6_55 rfl rfl rfl (Nat.le_of_ble_eq_true rfl) ⟨Nat.le_of_ble_eq_true rfl, Nat.le_of_ble_eq_true rfl⟩ dX6_addWord_17 (fun S14 h => ?_)
    refine V_goto (tgt := 53) C dX6_addWord_20 (by decide) ?_
    exact V_vret C D dX6_addWord_53 h
/-! HalfAccuser$Tape.split(I)V -/
theorem dX6_split_0 : decode cX6_split 0 = .ok ((.aload_n 0), 1) := by decide +kernel
theorem dX6_split_1 : decode cX6_split 1 = .ok ((.iconst 0), 1) := by decide +kernel
theorem dX6_split_2 : decode cX6_split 2 = .ok ((.putfield 30), 3) := by decide +kernel
theorem dX6_split_5 : decode cX6_split 5 = .ok ((.iconst 0), 1) := by decide +kernel
theorem dX6_split_6 : decode cX6_split 6 = .ok ((.istore_n 2), 1) := by decide +kernel
theorem dX6_split_7 : decode cX6_split 7 = .ok ((.iconst 0), 1) := by decide +kernel
theorem dX6_split_8 : decode cX6_split 8 = .ok ((.istore_n 3), 1) := by decide +kernel
theorem dX6_split_9 : decode cX6_split 9 = .ok ((.iload_n 3), 1) := by decide +kernel
theorem dX6_split_10 : decode cX6_split 10 = .ok ((.iload_n 1), 1) := by decide +kernel
theorem dX6_split_11 : decode cX6_split 11 = .ok ((.if_icmp .gt 145), 3) := by decide +kernel
theorem dX6_split_14 : decode cX6_split 14 = .ok ((.iload_n 2), 1) := by decide +kernel
theorem dX6_split_15 : decode cX6_split 15 = .ok ((.iload_n 1), 1) := by decide +kernel
theorem dX6_split_16 : decode cX6_split 16 = .ok ((.if_icmp .ge 140), 3) := by decide +kernel
theorem dX6_split_19 : decode cX6_split 19 = .ok ((.aload_n 0), 1) := by decide +kernel
theorem dX6_split_20 : decode cX6_split 20 = .ok ((.iload_n 2), 1) := by decide +kernel
theorem dX6_split_21 : decode cX6_split 21 = .ok ((.invokevirtual 33), 3) := by decide +kernel
theorem dX6_split_24 : decode cX6_split 24 = .ok ((.istore 4), 2) := by decide +kernel
theorem dX6_split_26 : decode cX6_split 26 = .ok ((.iload_n 2), 1) := by decide +kernel
theorem dX6_split_27 : decode cX6_split 27 = .ok ((.iconst 1), 1) := by decide +kernel
theorem dX6_split_28 : decode cX6_split 28 = .ok (.iadd, 1) := by decide +kernel
theorem dX6_split_29 : decode cX6_split 29 = .ok ((.istore 5), 2) := by decide +kernel
theorem dX6_split_31 : decode cX6_split 31 = .ok ((.iload 4), 2) := by decide +kernel
theorem dX6_split_33 : decode cX6_split 33 = .ok ((.invokestatic 37), 3) := by decide +kernel
theorem dX6_split_36 : decode cX6_split 36 = .ok ((.ifCond .eq 22), 3) := by decide +kernel
theorem dX6_split_39 : decode cX6_split 39 = .ok ((.aload_n 0), 1) := by decide +kernel
theorem dX6_split_40 : decode cX6_split 40 = .ok ((.iload_n 2), 1) := by decide +kernel
theorem dX6_split_41 : decode cX6_split 41 = .ok ((.iload_n 1), 1) := by decide +kernel
theorem dX6_split_42 : decode cX6_split 42 = .ok ((.iconst 1), 1) := by decide +kernel
theorem dX6_split_43 : decode cX6_split 43 = .ok ((.invokevirtual 41), 3) := by decide +kernel
theorem dX6_split_46 : decode cX6_split 46 = .ok ((.istore 5), 2) := by decide +kernel
theorem dX6_split_48 : decode cX6_split 48 = .ok ((.aload_n 0), 1) := by decide +kernel
theorem dX6_split_49 : decode cX6_split 49 = .ok ((.iload_n 2), 1) := by decide +kernel
theorem dX6_split_50 : decode cX6_split 50 = .ok ((.iload 5), 2) := by decide +kernel
theorem dX6_split_52 : decode cX6_split 52 = .ok ((.invokevirtual 45), 3) := by decide +kernel
theorem dX6_split_55 : decode cX6_split 55 = .ok ((.goto 92), 3) := by decide +kernel
theorem dX6_split_58 : decode cX6_split 58 = .ok ((.iload 4), 2) := by decide +kernel
theorem dX6_split_60 : decode cX6_split 60 = .ok ((.invokestatic 49), 3) := by decide +kernel
theorem dX6_split_63 : decode cX6_split 63 = .ok ((.ifCond .eq 22), 3) := by decide +kernel
theorem dX6_split_66 : decode cX6_split 66 = .ok ((.aload_n 0), 1) := by decide +kernel
theorem dX6_split_67 : decode cX6_split 67 = .ok ((.iload_n 2), 1) := by decide +kernel
theorem dX6_split_68 : decode cX6_split 68 = .ok ((.iload_n 1), 1) := by decide +kernel
theorem dX6_split_69 : decode cX6_split 69 = .ok ((.iconst 0), 1) := by decide +kernel
theorem dX6_split_70 : decode cX6_split 70 = .ok ((.invokevirtual 41), 3) := by decide +kernel
theorem dX6_split_73 : decode cX6_split 73 = .ok ((.istore 5), 2) := by decide +kernel
theorem dX6_split_75 : decode cX6_split 75 = .ok ((.aload_n 0), 1) := by decide +kernel
theorem dX6_split_76 : decode cX6_split 76 = .ok ((.iload_n 2), 1) := by decide +kernel
theorem dX6_split_77 : decode cX6_split 77 = .ok ((.iload 5), 2) := by decide +kernel
theorem dX6_split_79 : decode cX6_split 79 = .ok ((.invokevirtual 52), 3) := by decide +kernel
theorem dX6_split_82 : decode cX6_split 82 = .ok ((.goto 65), 3) := by decide +kernel
theorem dX6_split_85 : decode cX6_split 85 = .ok ((.iload 4), 2) := by decide +kernel
theorem dX6_split_87 : decode cX6_split 87 = .ok ((.bipush 59), 2) := by decide +kernel
theorem dX6_split_89 : decode cX6_split 89 = .ok ((.if_icmp .eq 24), 3) := by decide +kernel
theorem dX6_split_92 : decode cX6_split 92 = .ok ((.iload 4), 2) := by decide +kernel
theorem dX6_split_94 : decode cX6_split 94 = .ok ((.bipush 60), 2) := by decide +kernel
theorem dX6_split_96 : decode cX6_split 96 = .ok ((.if_icmp .eq 17), 3) := by decide +kernel
theorem dX6_split_99 : decode cX6_split 99 = .ok ((.iload 4), 2) := by decide +kernel
theorem dX6_split_101 : decode cX6_split 101 = .ok ((.bipush 62), 2) := by decide +kernel
theorem dX6_split_103 : decode cX6_split 103 = .ok ((.if_icmp .eq 10), 3) := by decide +kernel
theorem dX6_split_106 : decode cX6_split 106 = .ok ((.iload 4), 2) := by decide +kernel
theorem dX6_split_108 : decode cX6_split 108 = .ok ((.bipush 61), 2) := by decide +kernel
theorem dX6_split_110 : decode cX6_split 110 = .ok ((.if_icmp .ne 16), 3) := by decide +kernel
theorem dX6_split_113 : decode cX6_split 113 = .ok ((.aload_n 0), 1) := by decide +kernel
theorem dX6_split_114 : decode cX6_split 114 = .ok ((.bipush 6), 2) := by decide +kernel
theorem dX6_split_116 : decode cX6_split 116 = .ok ((.iload_n 2), 1) := by decide +kernel
theorem dX6_split_117 : decode cX6_split 117 = .ok ((.iload 4), 2) := by decide +kernel
theorem dX6_split_119 : decode cX6_split 119 = .ok (.i2l, 1) := by decide +kernel
theorem dX6_split_120 : decode cX6_split 120 = .ok ((.invokevirtual 55), 3) := by decide +kernel
theorem dX6_split_123 : decode cX6_split 123 = .ok ((.goto 24), 3) := by decide +kernel
theorem dX6_split_126 : decode cX6_split 126 = .ok ((.iload 4), 2) := by decide +kernel
theorem dX6_split_128 : decode cX6_split 128 = .ok ((.bipush 10), 2) := by decide +kernel
theorem dX6_split_130 : decode cX6_split 130 = .ok ((.if_icmp .eq 17), 3) := by decide +kernel
theorem dX6_split_133 : decode cX6_split 133 = .ok ((.iload 4), 2) := by decide +kernel
theorem dX6_split_135 : decode cX6_split 135 = .ok ((.bipush 32), 2) := by decide +kernel
theorem dX6_split_137 : decode cX6_split 137 = .ok ((.if_icmp .eq 10), 3) := by decide +kernel
theorem dX6_split_140 : decode cX6_split 140 = .ok ((.aload_n 0), 1) := by decide +kernel
theorem dX6_split_141 : decode cX6_split 141 = .ok ((.iconst 1), 1) := by decide +kernel
theorem dX6_split_142 : decode cX6_split 142 = .ok ((.iload_n 2), 1) := by decide +kernel
theorem dX6_split_143 : decode cX6_split 143 = .ok ((.lconst 0), 1) := by decide +kernel
theorem dX6_split_144 : decode cX6_split 144 = .ok ((.invokevirtual 55), 3) := by decide +kernel
theorem dX6_split_147 : decode cX6_split 147 = .ok ((.iload 5), 2) := by decide +kernel
theorem dX6_split_149 : decode cX6_split 149 = .ok ((.istore_n 2), 1) := by decide +kernel
theorem dX6_split_150 : decode cX6_split 150 = .ok ((.iinc 3 1), 3) := by decide +kernel
theorem dX6_split_153 : decode cX6_split 153 = .ok ((.goto (-144)), 3) := by decide +kernel
theorem dX6_split_156 : decode cX6_split 156 = .ok ((.aload_n 0), 1) := by decide +kernel
theorem dX6_split_157 : decode cX6_split 157 = .ok ((.iconst 0), 1) := by decide +kernel
theorem dX6_split_158 : decode cX6_split 158 = .ok ((.iload_n 1), 1) := by decide +kernel
theorem dX6_split_159 : decode cX6_split 159 = .ok ((.lconst 0), 1) := by decide +kernel
theorem dX6_split_160 : decode cX6_split 160 = .ok ((.invokevirtual 55), 3) := by decide +kernel
theorem dX6_split_163 : decode cX6_split 163 = .ok ((.aload_n 0), 1) := by decide +kernel
theorem dX6_split_164 : decode cX6_split 164 = .ok ((.iconst (-1)), 1) := by decide +kernel
theorem dX6_split_165 : decode cX6_split 165 = .ok ((.putfield 59), 3) := by decide +kernel
theorem dX6_split_168 : decode cX6_split 168 = .ok ((.aload_n 0), 1) := by decide +kernel
theorem dX6_split_169 : decode cX6_split 169 = .ok ((.invokevirtual 62), 3) := by decide +kernel
theorem dX6_split_172 : decode cX6_split 172 = .ok (.return_, 1) := by decide +kernel
def p_X6_split_156  (a1 : Int32)   (post : vSt → Prop) (S : vSt)  : Prop := p_X6_addToken  S 0 a1 0 (fun S38 => ∀ S39, S39 = v_si S38 5 6 (-1) → p_X6_pass  S39  (fun S40 => post S40))
def p_X6_split_147  (a1 : Int32)  (K9 : vSt → Int32 → Int32 → Prop) (post : vSt → Prop) (S : vSt) (x3 : Int32) (x5 : Int32) : Prop := ∀ y46 : Int32, y46 = x3 + 1 → K9 S x5 y46
def p_X6_split_113  (a1 : Int32)  (K9 : vSt → Int32 → Int32 → Prop) (post : vSt → Prop) (S : vSt) (x2 : Int32) (x3 : Int32) (x4 : Int32) (x5 : Int32) : Prop := p_X6_addToken  S 6 x2 (Int32.toInt64 x4) (fun S45 => p_X6_split_147 a1 K9 post S45 x3 x5)
def p_X6_split_9  (a1 : Int32)   (post : vSt → Prop) : Nat → vSt → Int32 → Int32 → Prop
  | 0 => fun _ _ _ => False
  | fu9 + 1 => fun S x2 x3 => ((a1 < x3 → p_X6_split_156 a1 post S ) ∧ (¬ a1 < x3 → ((a1 ≤ x2 → p_X6_split_156 a1 post S ) ∧ (¬ a1 ≤ x2 → p_X6_byteAt  S x2 (fun r39 S38 => ∀ y40 : Int32, y40 = (x2 + 1) → p_X6_isLetter  S38 r39 (fun r42 S41 => ((r42 = false → p_X6_isDigit  S41 r39 (fun r44 S43 => ((r44 = false → ((r39 = 59 → p_X6_split_113 a1 (p_X6_split_9 a1 post fu9) post S43 x2 x3 r39 y40) ∧ (¬ r39 = 59 → ((r39 = 60 → p_X6_split_113 a1 (p_X6_split_9 a1 post fu9) post S43 x2 x3 r39 y40) ∧ (¬ r39 = 60 → ((r39 = 62 → p_X6_split_113 a1 (p_X6_split_9 a1 post fu9) post S43 x2 x3 r39 y40) ∧ (¬ r39 = 62 → ((¬ r39 = 61 → ((r39 = 10 → p_X6_split_147 a1 (p_X6_split_9 a1 post fu9) post S43 x3 y40) ∧ (¬ r39 = 10 → ((r39 = 32 → p_X6_split_147 a1 (p_X6_split_9 a1 post fu9) post S43 x3 y40) ∧ (¬ r39 = 32 → p_X6_addToken  S43 1 x2 0 (fun S45 => p_X6_split_147 a1 (p_X6_split_9 a1 post fu9) post S45 x3 y40)))))) ∧ (r39 = 61 → p_X6_split_113 a1 (p_X6_split_9 a1 post fu9) post S43 x2 x3 r39 y40))))))))) ∧ (r44 = true → p_X6_runEnd  S43 x2 a1 false (fun r47 S46 => p_X6_addNumber  S46 x2 r47 (fun S48 => p_X6_split_147 a1 (p_X6_split_9 a1 post fu9) post S48 x3 r47)))))) ∧ (r42 = true → p_X6_runEnd  S41 x2 a1 true (fun r50 S49 => p_X6_addWord  S49 x2 r50 (fun S51 => p_X6_split_147 a1 (p_X6_split_9 a1 post fu9) post S51 x3 r50))))))))))
theorem e_X6_split_9  (a1 : Int32)   (post : vSt → Prop) (fu9 : Nat) (S : vSt) (x2 : Int32) (x3 : Int32) : p_X6_split_9 a1 post (fu9 + 1) S x2 x3 = (((a1 < x3 → p_X6_split_156 a1 post S ) ∧ (¬ a1 < x3 → ((a1 ≤ x2 → p_X6_split_156 a1 post S ) ∧ (¬ a1 ≤ x2 → p_X6_byteAt  S x2 (fun r39 S38 => ∀ y40 : Int32, y40 = (x2 + 1) → p_X6_isLetter  S38 r39 (fun r42 S41 => ((r42 = false → p_X6_isDigit  S41 r39 (fun r44 S43 => ((r44 = false → ((r39 = 59 → p_X6_split_113 a1 (p_X6_split_9 a1 post fu9) post S43 x2 x3 r39 y40) ∧ (¬ r39 = 59 → ((r39 = 60 → p_X6_split_113 a1 (p_X6_split_9 a1 post fu9) post S43 x2 x3 r39 y40) ∧ (¬ r39 = 60 → ((r39 = 62 → p_X6_split_113 a1 (p_X6_split_9 a1 post fu9) post S43 x2 x3 r39 y40) ∧ (¬ r39 = 62 → ((¬ r39 = 61 → ((r39 = 10 → p_X6_split_147 a1 (p_X6_split_9 a1 post fu9) post S43 x3 y40) ∧ (¬ r39 = 10 → ((r39 = 32 → p_X6_split_147 a1 (p_X6_split_9 a1 post fu9) post S43 x3 y40) ∧ (¬ r39 = 32 → p_X6_addToken  S43 1 x2 0 (fun S45 => p_X6_split_147 a1 (p_X6_split_9 a1 post fu9) post S45 x3 y40)))))) ∧ (r39 = 61 → p_X6_split_113 a1 (p_X6_split_9 a1 post fu9) post S43 x2 x3 r39 y40))))))))) ∧ (r44 = true → p_X6_runEnd  S43 x2 a1 false (fun r47 S46 => p_X6_addNumber  S46 x2 r47 (fun S48 => p_X6_split_147 a1 (p_X6_split_9 a1 post fu9) post S48 x3 r47)))))) ∧ (r42 = true → p_X6_runEnd  S41 x2 a1 true (fun r50 S49 => p_X6_addWord  S49 x2 r50 (fun S51 => p_X6_split_147 a1 (p_X6_split_9 a1 post fu9) post S51 x3 r50))))))))))) := rfl
def p_X6_split   (S : vSt) (a1 : Int32) (post : vSt → Prop) : Prop := ∀ S37, S37 = v_si S 5 5 0 → ∃ fu9, p_X6_split_9 a1 post fu9 S37 0 0
set_option maxHeartbeats 4000000 in
set_option maxRecDepth 100000 in
theorem q_X6_split_156 {X : vX} {G : vG}  {post : vSt → Prop} (C : v_Cx X G cX6_split RX6 6 (v_rm 6 270)) (D : v_Rx X G (v_Qv G post) none)  {a1 : Int32}   : ∀ (S : vSt), p_X6_split_156 a1 post S  → VJ X G S 156 [(0, .ref (G.1 5)), (1, .int a1)] [] := by
  intro S  h
  refine V_aload_n C 0 dX6_split_156 rfl rfl ?_
  refine V_iconst (v := 0) C dX6_split_157 (by decide) ?_
  refine V_iload_n C 1 dX6_split_158 rfl rfl ?_
  refine V_lconst (v := 0) C dX6_split_159 (by decide) ?_
  refine V_callVv (As := [.int 0, .int a1, .long 0]) (rest := []) C (c_X6_addToken (v_l X) G  _ _ _ _ h) 5 6 (by decide) (by decide) (by decide) rfl KV_X6_addToken k_RX6_55 rfl rfl rfl (Nat.le_of_ble_eq_true rfl) ⟨Nat.le_of_ble_eq_true rfl, Nat.le_of_ble_eq_true rfl⟩ dX6_split_160 (fun S38 h => ?_)
  refine V_aload_n C 0 dX6_split_163 rfl rfl ?_
  refine V_iconst (v := (-1)) C dX6_split_164 (by decide) ?_
  refine V_pi C 5 (by decide) (by decide) P_6_6 k_RX6_59 dX6_split_165 ?_
  refine V_topS (fun S39 eS39 => ?_)
  have h := h S39 eS39
  refine V_aload_n C 0 dX6_split_168 rfl rfl ?_
  refine V_callVv (As := []) (rest := []) C (c_X6_pass (v_l X) G  _ h) 5 6 (by decide) (by decide) (by decide) rfl KV_X6_pass k_RX6_62 rfl rfl rfl (Nat.le_of_ble_eq_true rfl) ⟨Nat.le_of_ble_eq_true rfl, Nat.le_of_ble_eq_true rfl⟩ dX6_split_169 (fun S40 h => ?_)
  exact V_vret C D dX6_split_172 h
set_option maxHeartbeats 4000000 in
set_option maxRecDepth 100000 in
theorem q_X6_split_147 {X : vX} {G : vG}  {post : vSt → Prop} (C : v_Cx X G cX6_split RX6 6 (v_rm 6 270)) (D : v_Rx X G (v_Qv G post) none)  {a1 : Int32}  {K9 : vSt → Int32 → Int32 → Prop} (hK9 : ∀ S x2 x3, K9 S x2 x3 → VJ X G S 9 [(0, .ref (G.1 5)), (1, .int a1), (2, .int x2), (3, .int x3)] []) : ∀ (S : vSt) (x3 : Int32) (x5 : Int32), p_X6_split_147 a1 K9 post S x3 x5 → VJ X G S 147 [(0, .ref (G.1 5)), (1, .int a1), (3, .int x3), (5, .int x5)] [] := by
  intro S x3 x5 h
  refine V_iload C 3 dX6_split_147 rfl ?_
  refine V_istore_n (lv' := [(0, .ref (G.1 5)), (1, .int a1), (2, .int x5), (3, .int x3), (5, .int x5)]) C [1, 2, 0, 3, 4] dX6_split_149 rfl (by decide) rfl ?_
  obtain ⟨y46, ey46⟩ : ∃ z : Int32, z = x3 + 1 := ⟨_, rfl⟩
  have h := h y46 ey46
  refine V_iinc (lv' := [(0, .ref (G.1 5)), (1, .int a1), (2, .int x5), (3, .int y46), (5, .int x5)]) C 3 [1, 2, 3, 0, 4] y46 dX6_split_150 rfl (by rw [ey46]; rfl) (by decide) rfl ?_
  refine V_goto (tgt := 9) C dX6_split_153 (by decide) ?_
  refine V_loc (lv' := [(0, .ref (G.1 5)), (1, .int a1), (2, .int x5), (3, .int y46)]) [0, 1, 2, 3] rfl ?_
  exact hK9 _ _ _ h
set_option maxHeartbeats 4000000 in
set_option maxRecDepth 100000 in
theorem q_X6_split_113 {X : vX} {G : vG}  {post : vSt → Prop} (C : v_Cx X G cX6_split RX6 6 (v_rm 6 270)) (D : v_Rx X G (v_Qv G post) none)  {a1 : Int32}  {K9 : vSt → Int32 → Int32 → Prop} (hK9 : ∀ S x2 x3, K9 S x2 x3 → VJ X G S 9 [(0, .ref (G.1 5)), (1, .int a1), (2, .int x2), (3, .int x3)] []) : ∀ (S : vSt) (x2 : Int32) (x3 : Int32) (x4 : Int32) (x5 : Int32), p_X6_split_113 a1 K9 post S x2 x3 x4 x5 → VJ X G S 113 [(0, .ref (G.1 5)), (1, .int a1), (2, .int x2), (3, .int x3), (4, .int x4), (5, .int x5)] [] := by
  intro S x2 x3 x4 x5 h
  refine V_aload_n C 0 dX6_split_113 rfl rfl ?_
  refine V_bipush (v := 6) C dX6_split_114 (by decide) ?_
  refine V_iload_n C 2 dX6_split_116 rfl rfl ?_
  refine V_iload C 4 dX6_split_117 rfl ?_
  refine V_i2l C dX6_split_119 ?_
  refine V_callVv (As := [.int 6, .int x2, .long (Int32.toInt64 x4)]) (rest := []) C (c_X6_addToken (v_l X) G  _ _ _ _ h) 5 6 (by decide) (by decide) (by decide) rfl KV_X6_addToken k_RX6_55 rfl rfl rfl (Nat.le_of_ble_eq_true rfl) ⟨Nat.le_of_ble_eq_true rfl, Nat.le_of_ble_eq_true rfl⟩ dX6_split_120 (fun S45 h => ?_)
  refine V_goto (tgt := 147) C dX6_split_123 (by decide) ?_
  refine V_loc (lv' := [(0, .ref (G.1 5)), (1, .int a1), (3, .int x3), (5, .int x5)]) [0, 1, 3, 5] rfl ?_
  exact q_X6_split_147 C D hK9 _ _ _ h
set_option maxHeartbeats 4000000 in
set_option maxRecDepth 100000 in
theorem q_X6_split_9 {X : vX} {G : vG}  {post : vSt → Prop} (C : v_Cx X G cX6_split RX6 6 (v_rm 6 270)) (D : v_Rx X G (v_Qv G post) none)  {a1 : Int32}   : ∀ (fu : Nat) (S : vSt) (x2 : Int32) (x3 : Int32), p_X6_split_9 a1 post fu S x2 x3 → VJ X G S 9 [(0, .ref (G.1 5)), (1, .int a1), (2, .int x2), (3, .int x3)] [] := by
  intro fu
  induction fu with
  | zero => intro S x2 x3 h; exact absurd h id
  | succ fu ih =>
    intro S x2 x3 h
    have hK9 := ih
    rw [e_X6_split_9] at h
    refine V_iload_n C 3 dX6_split_9 rfl rfl ?_
    refine V_iload_n C 1 dX6_split_10 rfl rfl ?_
    refine V_icmp_gt (tgt := 156) C dX6_split_11 (by decide) (fun c => ?_) (fun c => ?_)
    · have h := h.1 c
      refine V_loc (lv' := [(0, .ref (G.1 5)), (1, .int a1)]) [0, 1] rfl ?_
      exact q_X6_split_156 C D  _ h
    · have h := h.2 c
      refine V_iload_n C 2 dX6_split_14 rfl rfl ?_
      refine V_iload_n C 1 dX6_split_15 rfl rfl ?_
      refine V_icmp_ge (tgt := 156) C dX6_split_16 (by decide) (fun c => ?_) (fun c => ?_)
      · have h := h.1 c
        refine V_loc (lv' := [(0, .ref (G.1 5)), (1, .int a1)]) [0, 1] rfl ?_
        exact q_X6_split_156 C D  _ h
      · have h := h.2 c
        refine V_aload_n C 0 dX6_split_19 rfl rfl ?_
        refine V_iload_n C 2 dX6_split_20 rfl rfl ?_
        refine V_callVi (As := [.int x2]) (rest := []) C (c_X6_byteAt (v_l X) G  _ _ h) 5 6 (by decide) (by decide) (by decide) rfl KV_X6_byteAt k_RX6_33 rfl rfl rfl (Nat.le_of_ble_eq_true rfl) ⟨Nat.le_of_ble_eq_true rfl, Nat.le_of_ble_eq_true rfl⟩ dX6_split_21 (fun r39 S38 h => ?_)
        refine V_istore (lv' := [(0, .ref (G.1 5)), (1, .int a1), (2, .int x2), (3, .int x3), (4, .int r39)]) C [1, 2, 3, 4, 0] dX6_split_24 (by decide) rfl ?_
        refine V_iload_n C 2 dX6_split_26 rfl rfl ?_
        refine V_iconst (v := 1) C dX6_split_27 (by decide) ?_
        refine V_iadd C dX6_split_28 ?_
        refine V_topi (fun y40 ey40 => ?_)
        have h := h y40 ey40
        refine V_istore (lv' := [(0, .ref (G.1 5)), (1, .int a1), (2, .int x2), (3, .int x3), (4, .int r39), (5, .int y40)]) C [1, 2, 3, 4, 5, 0] dX6_split_29 (by decide) rfl ?_
        refine V_iload C 4 dX6_split_31 rfl ?_
        refine V_callSz (As := [.int r39]) (rest := []) C (c_X6_isLetter (v_l X) G  _ _ h) KV_X6_isLetter k_RX6_37 rfl rfl rfl (Nat.le_of_ble_eq_true rfl) ⟨Nat.le_of_ble_eq_true rfl, Nat.le_of_ble_eq_true rfl⟩ dX6_split_33 (fun r42 S41 h => ?_)
        refine V_ifb_eq (tgt := 58) C dX6_split_36 (by decide) (fun c => ?_) (fun c => ?_)
        · have h := h.1 c
          refine V_iload C 4 dX6_split_58 rfl ?_
          refine V_callSz (As := [.int r39]) (rest := []) C (c_X6_isDigit (v_l X) G  _ _ h) KV_X6_isDigit k_RX6_49 rfl rfl rfl (Nat.le_of_ble_eq_true rfl) ⟨Nat.le_of_ble_eq_true rfl, Nat.le_of_ble_eq_true rfl⟩ dX6_split_60 (fun r44 S43 h => ?_)
          refine V_ifb_eq (tgt := 85) C dX6_split_63 (by decide) (fun c => ?_) (fun c => ?_)
          · have h := h.1 c
            refine V_iload C 4 dX6_split_85 rfl ?_
            refine V_bipush (v := 59) C dX6_split_87 (by decide) ?_
            refine V_icmp_eq (tgt := 113) C dX6_split_89 (by decide) (fun c => ?_) (fun c => ?_)
            · have h := h.1 c
              exact q_X6_split_113 C D hK9 _ _ _ _ _ h
            · have h := h.2 c
              refine V_iload C 4 dX6_split_92 rfl ?_
              refine V_bipush (v := 60) C dX6_split_94 (by decide) ?_
              refine V_icmp_eq (tgt := 113) C dX6_split_96 (by decide) (fun c => ?_) (fun c => ?_)
              · have h := h.1 c
                exact q_X6_split_113 C D hK9 _ _ _ _ _ h
              · have h := h.2 c
                refine V_iload C 4 dX6_split_99 rfl ?_
                refine V_bipush (v := 62) C dX6_split_101 (by decide) ?_
                refine V_icmp_eq (tgt := 113) C dX6_split_103 (by decide) (fun c => ?_) (fun c => ?_)
                · have h := h.1 c
                  exact q_X6_split_113 C D hK9 _ _ _ _ _ h
                · have h := h.2 c
                  refine V_iload C 4 dX6_split_106 rfl ?_
                  refine V_bipush (v := 61) C dX6_split_108 (by decide) ?_
                  refine V_icmp_ne (tgt := 126) C dX6_split_110 (by decide) (fun c => ?_) (fun c => ?_)
                  · have h := h.1 c
                    refine V_iload C 4 dX6_split_126 rfl ?_
                    refine V_bipush (v := 10) C dX6_split_128 (by decide) ?_
                    refine V_icmp_eq (tgt := 147) C dX6_split_130 (by decide) (fun c => ?_) (fun c => ?_)
                    · have h := h.1 c
                      refine V_loc (lv' := [(0, .ref (G.1 5)), (1, .int a1), (3, .int x3), (5, .int y40)]) [0, 1, 3, 5] rfl ?_
                      exact q_X6_split_147 C D hK9 _ _ _ h
                    · have h := h.2 c
                      refine V_iload C 4 dX6_split_133 rfl ?_
                      refine V_bipush (v := 32) C dX6_split_135 (by decide) ?_
                      refine V_icmp_eq (tgt := 147) C dX6_split_137 (by decide) (fun c => ?_) (fun c => ?_)
                      · have h := h.1 c
                        refine V_loc (lv' := [(0, .ref (G.1 5)), (1, .int a1), (3, .int x3), (5, .int y40)]) [0, 1, 3, 5] rfl ?_
                        exact q_X6_split_147 C D hK9 _ _ _ h
                      · have h := h.2 c
                        refine V_aload_n C 0 dX6_split_140 rfl rfl ?_
                        refine V_iconst (v := 1) C dX6_split_141 (by decide) ?_
                        refine V_iload_n C 2 dX6_split_142 rfl rfl ?_
                        refine V_lconst (v := 0) C dX6_split_143 (by decide) ?_
                        refine V_callVv (As := [.int 1, .int x2, .long 0]) (rest := []) C (c_X6_addToken (v_l X) G  _ _ _ _ h) 5 6 (by decide) (by decide) (by decide) rfl KV_X6_addToken k_RX6_55 rfl rfl rfl (Nat.le_of_ble_eq_true rfl) ⟨Nat.le_of_ble_eq_true rfl, Nat.le_of_ble_eq_true rfl⟩ dX6_split_144 (fun S45 h => ?_)
                        refine V_loc (lv' := [(0, .ref (G.1 5)), (1, .int a1), (3, .int x3), (5, .int y40)]) [0, 1, 3, 5] rfl ?_
                        exact q_X6_split_147 C D hK9 _ _ _ h
                  · have h := h.2 c
                    exact q_X6_split_113 C D hK9 _ _ _ _ _ h
          · have h := h.2 c
            refine V_aload_n C 0 dX6_split_66 rfl rfl ?_
            refine V_iload_n C 2 dX6_split_67 rfl rfl ?_
            refine V_iload_n C 1 dX6_split_68 rfl rfl ?_
            refine V_iconst (v := 0) C dX6_split_69 (by decide) ?_
            refine V_callVi (As := [.int x2, .int a1, .int (v_b false)]) (rest := []) C (c_X6_runEnd (v_l X) G  _ _ _ _ h) 5 6 (by decide) (by decide) (by decide) rfl KV_X6_runEnd k_RX6_41 rfl rfl rfl (Nat.le_of_ble_eq_true rfl) ⟨Nat.le_of_ble_eq_true rfl, Nat.le_of_ble_eq_true rfl⟩ dX6_split_70 (fun r47 S46 h => ?_)
            refine V_istore (lv' := [(0, .ref (G.1 5)), (1, .int a1), (2, .int x2), (3, .int x3), (4, .int r39), (5, .int r47)]) C [1, 2, 3, 4, 5, 0] dX6_split_73 (by decide) rfl ?_
            refine V_aload_n C 0 dX6_split_75 rfl rfl ?_
            refine V_iload_n C 2 dX6_split_76 rfl rfl ?_
            refine V_iload C 5 dX6_split_77 rfl ?_
            refine V_callVv (As := [.int x2, .int r47]) (rest := []) C (c_X6_addNumber (v_l X) G  _ _ _ h) 5 6 (by decide) (by decide) (by decide) rfl KV_X6_addNumber k_RX6_52 rfl rfl rfl (Nat.le_of_ble_eq_true rfl) ⟨Nat.le_of_ble_eq_true rfl, Nat.le_of_ble_eq_true rfl⟩ dX6_split_79 (fun S48 h => ?_)
            refine V_goto (tgt := 147) C dX6_split_82 (by decide) ?_
            refine V_loc (lv' := [(0, .ref (G.1 5)), (1, .int a1), (3, .int x3), (5, .int r47)]) [0, 1, 3, 5] rfl ?_
            exact q_X6_split_147 C D hK9 _ _ _ h
        · have h := h.2 c
          refine V_aload_n C 0 dX6_split_39 rfl rfl ?_
          refine V_iload_n C 2 dX6_split_40 rfl rfl ?_
          refine V_iload_n C 1 dX6_split_41 rfl rfl ?_
          refine V_iconst (v := 1) C dX6_split_42 (by decide) ?_
          refine V_callVi (As := [.int x2, .int a1, .int (v_b true)]) (rest := []) C (c_X6_runEnd (v_l X) G  _ _ _ _ h) 5 6 (by decide) (by decide) (by decide) rfl KV_X6_runEnd k_RX6_41 rfl rfl rfl (Nat.le_of_ble_eq_true rfl) ⟨Nat.le_of_ble_eq_true rfl, Nat.le_of_ble_eq_true rfl⟩ dX6_split_43 (fun r50 S49 h => ?_)
          refine V_istore (lv' := [(0, .ref (G.1 5)), (1, .int a1), (2, .int x2), (3, .int x3), (4, .int r39), (5, .int r50)]) C [1, 2, 3, 4, 5, 0] dX6_split_46 (by decide) rfl ?_
          refine V_aload_n C 0 dX6_split_48 rfl rfl ?_
          refine V_iload_n C 2 dX6_split_49 rfl rfl ?_
          refine V_iload C 5 dX6_split_50 rfl ?_
          refine V_callVv (As := [.int x2, .int r50]) (rest := []) C (c_X6_addWord (v_l X) G  _ _ _ h) 5 6 (by decide) (by decide) (by decide) rfl KV_X6_addWord k_RX6_45 rfl rfl rfl (Nat.le_of_ble_eq_true rfl) ⟨Nat.le_of_ble_eq_true rfl, Nat.le_of_ble_eq_true rfl⟩ dX6_split_52 (fun S51 h => ?_)
          refine V_goto (tgt := 147) C dX6_split_55 (by decide) ?_
          refine V_loc (lv' := [(0, .ref (G.1 5)), (1, .int a1), (3, .int x3), (5, .int r50)]) [0, 1, 3, 5] rfl ?_
          exact q_X6_split_147 C D hK9 _ _ _ h
set_option maxHeartbeats 4000000 in
set_option maxRecDepth 100000 in
theorem c_X6_split (l : Launch) (G : vG)    {S : vSt} (a1 : Int32) (post : vSt → Prop) (h : p_X6_split   S a1 post) : Met l yX6_split (v_ws yX6_split cX6_split 6 none) (v_rm 6 270) (v_Pc G [.ref (G.1 5), .int a1] S) (v_Qv G post) 0 0 (v_A G) := by
  refine v_start (by decide +kernel) (Nat.le_of_ble_eq_true rfl) (fun X hl C D => ?_)
  subst hl
  have C : v_Cx X G cX6_split RX6 6 (v_rm 6 270) := C
  show VJ X G S 0 [(0, .ref (G.1 5)), (1, .int a1)] []
  refine V_aload_n C 0 dX6_split_0 rfl rfl ?_
  refine V_iconst (v := 0) C dX6_split_1 (by decide) ?_
  refine V_pi C 5 (by decide) (by decide) P_6_5 k_RX6_30 dX6_split_2 ?_
  refine V_topS (fun S37 eS37 => ?_)
  have h := h S37 eS37
  refine V_iconst (v := 0) C dX6_split_5 (by decide) ?_
  refine V_istore_n (lv' := [(0, .ref (G.1 5)), (1, .int a1), (2, .int 0)]) C [1, 2, 0] dX6_split_6 rfl (by decide) rfl ?_
  refine V_iconst (v := 0) C dX6_split_7 (by decide) ?_
  refine V_istore_n (lv' := [(0, .ref (G.1 5)), (1, .int a1), (2, .int 0), (3, .int 0)]) C [1, 2, 3, 0] dX6_split_8 rfl (by decide) rfl ?_
  obtain ⟨fu9, h⟩ := h
  exact q_X6_split_9 C D  fu9 _ _ _ h
/-! HalfAccuser.city(I)I -/
theorem dX10_city_0 : decode cX10_city 0 = .ok ((.iload_n 1), 1) := by decide +kernel
theorem dX10_city_1 : decode cX10_city 1 = .ok ((.ifCond .lt 14), 3) := by decide +kernel
theorem dX10_city_4 : decode cX10_city 4 = .ok ((.iload_n 1), 1) := by decide +kernel
theorem dX10_city_5 : decode cX10_city 5 = .ok ((.aload_n 0), 1) := by decide +kernel
theorem dX10_city_6 : decode cX10_city 6 = .ok ((.getfield 19), 3) := by decide +kernel
theorem dX10_city_9 : decode cX10_city 9 = .ok ((.getfield 150), 3) := by decide +kernel
theorem dX10_city_12 : decode cX10_city 12 = .ok ((.if_icmp .le 9), 3) := by decide +kernel
theorem dX10_city_15 : decode cX10_city 15 = .ok ((.aload_n 0), 1) := by decide +kernel
theorem dX10_city_16 : decode cX10_city 16 = .ok ((.iconst 5), 1) := by decide +kernel
theorem dX10_city_17 : decode cX10_city 17 = .ok ((.invokevirtual 153), 3) := by decide +kernel
theorem dX10_city_20 : decode cX10_city 20 = .ok (.ireturn, 1) := by decide +kernel
theorem dX10_city_21 : decode cX10_city 21 = .ok ((.aload_n 0), 1) := by decide +kernel
theorem dX10_city_22 : decode cX10_city 22 = .ok ((.getfield 19), 3) := by decide +kernel
theorem dX10_city_25 : decode cX10_city 25 = .ok ((.iload_n 1), 1) := by decide +kernel
theorem dX10_city_26 : decode cX10_city 26 = .ok ((.invokevirtual 157), 3) := by decide +kernel
theorem dX10_city_29 : decode cX10_city 29 = .ok ((.aload_n 0), 1) := by decide +kernel
theorem dX10_city_30 : decode cX10_city 30 = .ok ((.aload_n 0), 1) := by decide +kernel
theorem dX10_city_31 : decode cX10_city 31 = .ok ((.getfield 42), 3) := by decide +kernel
theorem dX10_city_34 : decode cX10_city 34 = .ok ((.invokevirtual 160), 3) := by decide +kernel
theorem dX10_city_37 : decode cX10_city 37 = .ok ((.invokevirtual 163), 3) := by decide +kernel
theorem dX10_city_40 : decode cX10_city 40 = .ok ((.ifCond .ne 10), 3) := by decide +kernel
theorem dX10_city_43 : decode cX10_city 43 = .ok ((.aload_n 0), 1) := by decide +kernel
theorem dX10_city_44 : decode cX10_city 44 = .ok ((.bipush 10), 2) := by decide +kernel
theorem dX10_city_46 : decode cX10_city 46 = .ok ((.invokevirtual 153), 3) := by decide +kernel
theorem dX10_city_49 : decode cX10_city 49 = .ok (.ireturn, 1) := by decide +kernel
theorem dX10_city_50 : decode cX10_city 50 = .ok ((.aload_n 0), 1) := by decide +kernel
theorem dX10_city_51 : decode cX10_city 51 = .ok ((.getfield 26), 3) := by decide +kernel
theorem dX10_city_54 : decode cX10_city 54 = .ok ((.aload_n 0), 1) := by decide +kernel
theorem dX10_city_55 : decode cX10_city 55 = .ok ((.getfield 30), 3) := by decide +kernel
theorem dX10_city_58 : decode cX10_city 58 = .ok ((.invokevirtual 167), 3) := by decide +kernel
theorem dX10_city_61 : decode cX10_city 61 = .ok ((.aload_n 0), 1) := by decide +kernel
theorem dX10_city_62 : decode cX10_city 62 = .ok ((.aload_n 0), 1) := by decide +kernel
theorem dX10_city_63 : decode cX10_city 63 = .ok ((.getfield 26), 3) := by decide +kernel
theorem dX10_city_66 : decode cX10_city 66 = .ok ((.getfield 170), 3) := by decide +kernel
theorem dX10_city_69 : decode cX10_city 69 = .ok ((.invokevirtual 173), 3) := by decide +kernel
theorem dX10_city_72 : decode cX10_city 72 = .ok (.ireturn, 1) := by decide +kernel
def p_X10_city_15  (a1 : Int32)   (post : Int32 → vSt → Prop) (S : vSt)  : Prop := p_X10_refused  S 5 (fun r14 S13 => post r14 S13)
def p_X10_city   (S : vSt) (a1 : Int32) (post : Int32 → vSt → Prop) : Prop := ((a1 < 0 → p_X10_city_15 a1 post S ) ∧ (¬ a1 < 0 → ((a1 ≤ (S.1 5 1) → p_X6_split  S a1 (fun S13 => p_X1_readText  S13  (fun r15 S14 => p_X10_tellFault  S14 r15 (fun r17 S16 => ((r17 = true → p_X0_copyFrom 10 32 S16  (fun S18 => p_X10_told  S18 (S18.1 10 16) (fun r20 S19 => post r20 S19))) ∧ (r17 = false → p_X10_refused  S16 10 (fun r22 S21 => post r22 S21))))))) ∧ (¬ a1 ≤ (S.1 5 1) → p_X10_city_15 a1 post S ))))
set_option maxHeartbeats 4000000 in
set_option maxRecDepth 100000 in
theorem q_X10_city_15 {X : vX} {G : vG}  {post : Int32 → vSt → Prop} (C : v_Cx X G cX10_city RX10 2 (v_rm 7 295)) (D : v_Rx X G (v_Qi G post) (some .int))  {a1 : Int32}   : ∀ (S : vSt), p_X10_city_15 a1 post S  → VJ X G S 15 [(0, .ref (G.1 0))] [] := by
  intro S  h
  refine V_aload_n C 0 dX10_city_15 rfl rfl ?_
  refine V_iconst (v := 5) C dX10_city_16 (by decide) ?_
  refine V_callVi (As := [.int 5]) (rest := []) C (c_X10_refused (v_l X) G  _ _ h) 0 10 (by decide) (by decide) (by decide) rfl KV_X10_refused k_RX10_153 rfl rfl rfl (Nat.le_of_ble_eq_true rfl) ⟨Nat.le_of_ble_eq_true rfl, Nat.le_of_ble_eq_true rfl⟩ dX10_city_17 (fun r14 S13 h => ?_)
  exact V_iret C D dX10_city_20 h
set_option maxHeartbeats 4000000 in
set_option maxRecDepth 100000 in
theorem c_X10_city (l : Launch) (G : vG)    {S : vSt} (a1 : Int32) (post : Int32 → vSt → Prop) (h : p_X10_city   S a1 post) : Met l yX10_city (v_ws yX10_city cX10_city 2 (some .int)) (v_rm 7 295) (v_Pc G [.ref (G.1 0), .int a1] S) (v_Qi G post) 0 0 (v_A G) := by
  refine v_start (by decide +kernel) (Nat.le_of_ble_eq_true rfl) (fun X hl C D => ?_)
  subst hl
  have C : v_Cx X G cX10_city RX10 2 (v_rm 7 295) := C
  show VJ X G S 0 [(0, .ref (G.1 0)), (1, .int a1)] []
  refine V_iload_n C 1 dX10_city_0 rfl rfl ?_
  refine V_if_lt (tgt := 15) C dX10_city_1 (by decide) (fun c => ?_) (fun c => ?_)
  · have h := h.1 c
    refine V_loc (lv' := [(0, .ref (G.1 0))]) [0] rfl ?_
    exact q_X10_city_15 C D  _ h
  · have h := h.2 c
    refine V_iload_n C 1 dX10_city_4 rfl rfl ?_
    refine V_aload_n C 0 dX10_city_5 rfl rfl ?_
    refine V_ga C 0 (by decide) (by decide) F_10_1 k_RX10_19 dX10_city_6 ?_
    refine V_gi C 5 (by decide) (by decide) F_6_1 k_RX10_150 dX10_city_9 ?_
    refine V_icmp_le (tgt := 21) C dX10_city_12 (by decide) (fun c => ?_) (fun c => ?_)
    · have h := h.1 c
      refine V_aload_n C 0 dX10_city_21 rfl rfl ?_
      refine V_ga C 0 (by decide) (by decide) F_10_1 k_RX10_19 dX10_city_22 ?_
      refine V_iload_n C 1 dX10_city_25 rfl rfl ?_
      refine V_callVv (As := [.int a1]) (rest := []) C (c_X6_split (v_l X) G  _ _ h) 5 6 (by decide) (by decide) (by decide) rfl KV_X6_split k_RX10_157 rfl rfl rfl (Nat.le_of_ble_eq_true rfl) ⟨Nat.le_of_ble_eq_true rfl, Nat.le_of_ble_eq_true rfl⟩ dX10_city_26 (fun S13 h => ?_)
      refine V_aload_n C 0 dX10_city_29 rfl rfl ?_
      refine V_aload_n C 0 dX10_city_30 rfl rfl ?_
      refine V_ga C 0 (by decide) (by decide) F_10_5 k_RX10_42 dX10_city_31 ?_
      refine V_callVz (As := []) (rest := [.ref (G.1 0)]) C (c_X1_readText (v_l X) G  _ h) 121 1 (by decide) (by decide) (by decide) rfl KV_X1_readText k_RX10_160 rfl rfl rfl (Nat.le_of_ble_eq_true rfl) ⟨Nat.le_of_ble_eq_true rfl, Nat.le_of_ble_eq_true rfl⟩ dX10_city_34 (fun r15 S14 h => ?_)
      refine V_callVz (As := [.int (v_b r15)]) (rest := []) C (c_X10_tellFault (v_l X) G  _ _ h) 0 10 (by decide) (by decide) (by decide) rfl KV_X10_tellFault k_RX10_163 rfl rfl rfl (Nat.le_of_ble_eq_true rfl) ⟨Nat.le_of_ble_eq_true rfl, Nat.le_of_ble_eq_true rfl⟩ dX10_city_37 (fun r17 S16 h => ?_)
      refine V_ifb_ne (tgt := 50) C dX10_city_40 (by decide) (fun c => ?_) (fun c => ?_)
      · have h := h.1 c
        refine V_aload_n C 0 dX10_city_50 rfl rfl ?_
        refine V_ga C 0 (by decide) (by decide) F_10_2 k_RX10_26 dX10_city_51 ?_
        refine V_aload_n C 0 dX10_city_54 rfl rfl ?_
        refine V_ga C 0 (by decide) (by decide) F_10_3 k_RX10_30 dX10_city_55 ?_
        refine V_callVv (As := [.ref (G.1 32)]) (rest := []) C (c_X0_copyFrom (v_l X) G v_i10 v_i32 _ h) 10 0 (by decide) (by decide) (by decide) rfl KV_X0_copyFrom k_RX10_167 rfl rfl rfl (Nat.le_of_ble_eq_true rfl) ⟨Nat.le_of_ble_eq_true rfl, Nat.le_of_ble_eq_true rfl⟩ dX10_city_58 (fun S18 h => ?_)
        refine V_aload_n C 0 dX10_city_61 rfl rfl ?_
        refine V_aload_n C 0 dX10_city_62 rfl rfl ?_
        refine V_ga C 0 (by decide) (by decide) F_10_2 k_RX10_26 dX10_city_63 ?_
        refine V_gi C 10 (by decide) (by decide) F_0_16 k_RX10_170 dX10_city_66 ?_
        refine V_callVi (As := [.int (S18.1 10 16)]) (rest := []) C (c_X10_told (v_l X) G  _ _ h) 0 10 (by decide) (by decide) (by decide) rfl KV_X10_told k_RX10_173 rfl rfl rfl (Nat.le_of_ble_eq_true rfl) ⟨Nat.le_of_ble_eq_true rfl, Nat.le_of_ble_eq_true rfl⟩ dX10_city_69 (fun r20 S19 h => ?_)
        exact V_iret C D dX10_city_72 h
      · have h := h.2 c
        refine V_aload_n C 0 dX10_city_43 rfl rfl ?_
        refine V_bipush (v := 10) C dX10_city_44 (by decide) ?_
        refine V_callVi (As := [.int 10]) (rest := []) C (c_X10_refused (v_l X) G  _ _ h) 0 10 (by decide) (by decide) (by decide) rfl KV_X10_refused k_RX10_153 rfl rfl rfl (Nat.le_of_ble_eq_true rfl) ⟨Nat.le_of_ble_eq_true rfl, Nat.le_of_ble_eq_true rfl⟩ dX10_city_46 (fun r22 S21 h => ?_)
        exact V_iret C D dX10_city_49 h
    · have h := h.2 c
      refine V_loc (lv' := [(0, .ref (G.1 0))]) [0] rfl ?_
      exact q_X10_city_15 C D  _ h
/-! HalfAccuser.years(I)I -/
theorem dX10_years_0 : decode cX10_years 0 = .ok ((.iload_n 1), 1) := by decide +kernel
theorem dX10_years_1 : decode cX10_years 1 = .ok ((.ifCond .lt 21), 3) := by decide +kernel
theorem dX10_years_4 : decode cX10_years 4 = .ok ((.iload_n 1), 1) := by decide +kernel
theorem dX10_years_5 : decode cX10_years 5 = .ok ((.aload_n 0), 1) := by decide +kernel
theorem dX10_years_6 : decode cX10_years 6 = .ok ((.getfield 19), 3) := by decide +kernel
theorem dX10_years_9 : decode cX10_years 9 = .ok ((.getfield 150), 3) := by decide +kernel
theorem dX10_years_12 : decode cX10_years 12 = .ok ((.if_icmp .gt 10), 3) := by decide +kernel
theorem dX10_years_15 : decode cX10_years 15 = .ok ((.iload_n 1), 1) := by decide +kernel
theorem dX10_years_16 : decode cX10_years 16 = .ok ((.sipush 300), 3) := by decide +kernel
theorem dX10_years_19 : decode cX10_years 19 = .ok ((.if_icmp .le 9), 3) := by decide +kernel
theorem dX10_years_22 : decode cX10_years 22 = .ok ((.aload_n 0), 1) := by decide +kernel
theorem dX10_years_23 : decode cX10_years 23 = .ok ((.iconst 5), 1) := by decide +kernel
theorem dX10_years_24 : decode cX10_years 24 = .ok ((.invokevirtual 153), 3) := by decide +kernel
theorem dX10_years_27 : decode cX10_years 27 = .ok (.ireturn, 1) := by decide +kernel
theorem dX10_years_28 : decode cX10_years 28 = .ok ((.aload_n 0), 1) := by decide +kernel
theorem dX10_years_29 : decode cX10_years 29 = .ok ((.getfield 19), 3) := by decide +kernel
theorem dX10_years_32 : decode cX10_years 32 = .ok ((.iload_n 1), 1) := by decide +kernel
theorem dX10_years_33 : decode cX10_years 33 = .ok ((.invokevirtual 157), 3) := by decide +kernel
theorem dX10_years_36 : decode cX10_years 36 = .ok ((.aload_n 0), 1) := by decide +kernel
theorem dX10_years_37 : decode cX10_years 37 = .ok ((.aload_n 0), 1) := by decide +kernel
theorem dX10_years_38 : decode cX10_years 38 = .ok ((.getfield 55), 3) := by decide +kernel
theorem dX10_years_41 : decode cX10_years 41 = .ok ((.invokevirtual 176), 3) := by decide +kernel
theorem dX10_years_44 : decode cX10_years 44 = .ok ((.invokevirtual 163), 3) := by decide +kernel
theorem dX10_years_47 : decode cX10_years 47 = .ok ((.ifCond .ne 10), 3) := by decide +kernel
theorem dX10_years_50 : decode cX10_years 50 = .ok ((.aload_n 0), 1) := by decide +kernel
theorem dX10_years_51 : decode cX10_years 51 = .ok ((.bipush 10), 2) := by decide +kernel
theorem dX10_years_53 : decode cX10_years 53 = .ok ((.invokevirtual 153), 3) := by decide +kernel
theorem dX10_years_56 : decode cX10_years 56 = .ok (.ireturn, 1) := by decide +kernel
theorem dX10_years_57 : decode cX10_years 57 = .ok ((.aload_n 0), 1) := by decide +kernel
theorem dX10_years_58 : decode cX10_years 58 = .ok ((.getfield 26), 3) := by decide +kernel
theorem dX10_years_61 : decode cX10_years 61 = .ok ((.getfield 48), 3) := by decide +kernel
theorem dX10_years_64 : decode cX10_years 64 = .ok ((.aload_n 0), 1) := by decide +kernel
theorem dX10_years_65 : decode cX10_years 65 = .ok ((.getfield 30), 3) := by decide +kernel
theorem dX10_years_68 : decode cX10_years 68 = .ok ((.getfield 48), 3) := by decide +kernel
theorem dX10_years_71 : decode cX10_years 71 = .ok ((.invokevirtual 177), 3) := by decide +kernel
theorem dX10_years_74 : decode cX10_years 74 = .ok ((.aload_n 0), 1) := by decide +kernel
theorem dX10_years_75 : decode cX10_years 75 = .ok ((.aload_n 0), 1) := by decide +kernel
theorem dX10_years_76 : decode cX10_years 76 = .ok ((.getfield 26), 3) := by decide +kernel
theorem dX10_years_79 : decode cX10_years 79 = .ok ((.getfield 48), 3) := by decide +kernel
theorem dX10_years_82 : decode cX10_years 82 = .ok ((.getfield 182), 3) := by decide +kernel
theorem dX10_years_85 : decode cX10_years 85 = .ok ((.invokevirtual 173), 3) := by decide +kernel
theorem dX10_years_88 : decode cX10_years 88 = .ok (.ireturn, 1) := by decide +kernel
def p_X10_years_22  (a1 : Int32)   (post : Int32 → vSt → Prop) (S : vSt)  : Prop := p_X10_refused  S 5 (fun r14 S13 => post r14 S13)
def p_X10_years   (S : vSt) (a1 : Int32) (post : Int32 → vSt → Prop) : Prop := ((a1 < 0 → p_X10_years_22 a1 post S ) ∧ (¬ a1 < 0 → (((S.1 5 1) < a1 → p_X10_years_22 a1 post S ) ∧ (¬ (S.1 5 1) < a1 → ((a1 ≤ 300 → p_X6_split  S a1 (fun S13 => p_X9_readText  S13  (fun r15 S14 => p_X10_tellFault  S14 r15 (fun r17 S16 => ((r17 = true → p_X8_copyFrom 10 32 S16  (fun S18 => p_X10_told  S18 (S18.1 25 7) (fun r20 S19 => post r20 S19))) ∧ (r17 = false → p_X10_refused  S16 10 (fun r22 S21 => post r22 S21))))))) ∧ (¬ a1 ≤ 300 → p_X10_years_22 a1 post S ))))))
set_option maxHeartbeats 4000000 in
set_option maxRecDepth 100000 in
theorem q_X10_years_22 {X : vX} {G : vG}  {post : Int32 → vSt → Prop} (C : v_Cx X G cX10_years RX10 2 (v_rm 7 295)) (D : v_Rx X G (v_Qi G post) (some .int))  {a1 : Int32}   : ∀ (S : vSt), p_X10_years_22 a1 post S  → VJ X G S 22 [(0, .ref (G.1 0))] [] := by
  intro S  h
  refine V_aload_n C 0 dX10_years_22 rfl rfl ?_
  refine V_iconst (v := 5) C dX10_years_23 (by decide) ?_
  refine V_callVi (As := [.int 5]) (rest := []) C (c_X10_refused (v_l X) G  _ _ h) 0 10 (by decide) (by decide) (by decide) rfl KV_X10_refused k_RX10_153 rfl rfl rfl (Nat.le_of_ble_eq_true rfl) ⟨Nat.le_of_ble_eq_true rfl, Nat.le_of_ble_eq_true rfl⟩ dX10_years_24 (fun r14 S13 h => ?_)
  exact V_iret C D dX10_years_27 h
set_option maxHeartbeats 4000000 in
set_option maxRecDepth 100000 in
theorem c_X10_years (l : Launch) (G : vG)    {S : vSt} (a1 : Int32) (post : Int32 → vSt → Prop) (h : p_X10_years   S a1 post) : Met l yX10_years (v_ws yX10_years cX10_years 2 (some .int)) (v_rm 7 295) (v_Pc G [.ref (G.1 0), .int a1] S) (v_Qi G post) 0 0 (v_A G) := by
  refine v_start (by decide +kernel) (Nat.le_of_ble_eq_true rfl) (fun X hl C D => ?_)
  subst hl
  have C : v_Cx X G cX10_years RX10 2 (v_rm 7 295) := C
  show VJ X G S 0 [(0, .ref (G.1 0)), (1, .int a1)] []
  refine V_iload_n C 1 dX10_years_0 rfl rfl ?_
  refine V_if_lt (tgt := 22) C dX10_years_1 (by decide) (fun c => ?_) (fun c => ?_)
  · have h := h.1 c
    refine V_loc (lv' := [(0, .ref (G.1 0))]) [0] rfl ?_
    exact q_X10_years_22 C D  _ h
  · have h := h.2 c
    refine V_iload_n C 1 dX10_years_4 rfl rfl ?_
    refine V_aload_n C 0 dX10_years_5 rfl rfl ?_
    refine V_ga C 0 (by decide) (by decide) F_10_1 k_RX10_19 dX10_years_6 ?_
    refine V_gi C 5 (by decide) (by decide) F_6_1 k_RX10_150 dX10_years_9 ?_
    refine V_icmp_gt (tgt := 22) C dX10_years_12 (by decide) (fun c => ?_) (fun c => ?_)
    · have h := h.1 c
      refine V_loc (lv' := [(0, .ref (G.1 0))]) [0] rfl ?_
      exact q_X10_years_22 C D  _ h
    · have h := h.2 c
      refine V_iload_n C 1 dX10_years_15 rfl rfl ?_
      refine V_sipush (v := 300) C dX10_years_16 (by decide) ?_
      refine V_icmp_le (tgt := 28) C dX10_years_19 (by decide) (fun c => ?_) (fun c => ?_)
      · have h := h.1 c
        refine V_aload_n C 0 dX10_years_28 rfl rfl ?_
        refine V_ga C 0 (by decide) (by decide) F_10_1 k_RX10_19 dX10_years_29 ?_
        refine V_iload_n C 1 dX10_years_32 rfl rfl ?_
        refine V_callVv (As := [.int a1]) (rest := []) C (c_X6_split (v_l X) G  _ _ h) 5 6 (by decide) (by decide) (by decide) rfl KV_X6_split k_RX10_157 rfl rfl rfl (Nat.le_of_ble_eq_true rfl) ⟨Nat.le_of_ble_eq_true rfl, Nat.le_of_ble_eq_true rfl⟩ dX10_years_33 (fun S13 h => ?_)
        refine V_aload_n C 0 dX10_years_36 rfl rfl ?_
        refine V_aload_n C 0 dX10_years_37 rfl rfl ?_
        refine V_ga C 0 (by decide) (by decide) F_10_6 k_RX10_55 dX10_years_38 ?_
        refine V_callVz (As := []) (rest := [.ref (G.1 0)]) C (c_X9_readText (v_l X) G  _ h) 122 9 (by decide) (by decide) (by decide) rfl KV_X9_readText k_RX10_176 rfl rfl rfl (Nat.le_of_ble_eq_true rfl) ⟨Nat.le_of_ble_eq_true rfl, Nat.le_of_ble_eq_true rfl⟩ dX10_years_41 (fun r15 S14 h => ?_)
        refine V_callVz (As := [.int (v_b r15)]) (rest := []) C (c_X10_tellFault (v_l X) G  _ _ h) 0 10 (by decide) (by decide) (by decide) rfl KV_X10_tellFault k_RX10_163 rfl rfl rfl (Nat.le_of_ble_eq_true rfl) ⟨Nat.le_of_ble_eq_true rfl, Nat.le_of_ble_eq_true rfl⟩ dX10_years_44 (fun r17 S16 h => ?_)
        refine V_ifb_ne (tgt := 57) C dX10_years_47 (by decide) (fun c => ?_) (fun c => ?_)
        · have h := h.1 c
          refine V_aload_n C 0 dX10_years_57 rfl rfl ?_
          refine V_ga C 0 (by decide) (by decide) F_10_2 k_RX10_26 dX10_years_58 ?_
          refine V_gr C 10 (by decide) (by decide) F_0_14 k_RX10_48 dX10_years_61 ?_
          refine V_aload_n C 0 dX10_years_64 rfl rfl ?_
          refine V_ga C 0 (by decide) (by decide) F_10_3 k_RX10_30 dX10_years_65 ?_
          refine V_gr C 32 (by decide) (by decide) F_0_14 k_RX10_48 dX10_years_68 ?_
          refine V_callVv (As := [.ref (G.1 47)]) (rest := []) C (c_X8_copyFrom (v_l X) G v_i10 v_i32 _ h) 25 8 (by decide) (by decide) (by decide) rfl KV_X8_copyFrom k_RX10_177 rfl rfl rfl (Nat.le_of_ble_eq_true rfl) ⟨Nat.le_of_ble_eq_true rfl, Nat.le_of_ble_eq_true rfl⟩ dX10_years_71 (fun S18 h => ?_)
          refine V_aload_n C 0 dX10_years_74 rfl rfl ?_
          refine V_aload_n C 0 dX10_years_75 rfl rfl ?_
          refine V_ga C 0 (by decide) (by decide) F_10_2 k_RX10_26 dX10_years_76 ?_
          refine V_gr C 10 (by decide) (by decide) F_0_14 k_RX10_48 dX10_years_79 ?_
          refine V_gi C 25 (by decide) (by decide) F_8_7 k_RX10_182 dX10_years_82 ?_
          refine V_callVi (As := [.int (S18.1 25 7)]) (rest := []) C (c_X10_told (v_l X) G  _ _ h) 0 10 (by decide) (by decide) (by decide) rfl KV_X10_told k_RX10_173 rfl rfl rfl (Nat.le_of_ble_eq_true rfl) ⟨Nat.le_of_ble_eq_true rfl, Nat.le_of_ble_eq_true rfl⟩ dX10_years_85 (fun r20 S19 h => ?_)
          exact V_iret C D dX10_years_88 h
        · have h := h.2 c
          refine V_aload_n C 0 dX10_years_50 rfl rfl ?_
          refine V_bipush (v := 10) C dX10_years_51 (by decide) ?_
          refine V_callVi (As := [.int 10]) (rest := []) C (c_X10_refused (v_l X) G  _ _ h) 0 10 (by decide) (by decide) (by decide) rfl KV_X10_refused k_RX10_153 rfl rfl rfl (Nat.le_of_ble_eq_true rfl) ⟨Nat.le_of_ble_eq_true rfl, Nat.le_of_ble_eq_true rfl⟩ dX10_years_53 (fun r22 S21 h => ?_)
          exact V_iret C D dX10_years_56 h
      · have h := h.2 c
        refine V_loc (lv' := [(0, .ref (G.1 0))]) [0] rfl ?_
        exact q_X10_years_22 C D  _ h
