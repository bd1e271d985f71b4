/-! HalfAccuserModel.mean(II)Z -/
theorem dX11_mean_0 : decode cX11_mean 0 = .ok ((.aload_n 0), 1) := by decide +kernel
theorem dX11_mean_1 : decode cX11_mean 1 = .ok ((.iconst 0), 1) := by decide +kernel
theorem dX11_mean_2 : decode cX11_mean 2 = .ok ((.putfield 60), 3) := by decide +kernel
theorem dX11_mean_5 : decode cX11_mean 5 = .ok ((.aload_n 0), 1) := by decide +kernel
theorem dX11_mean_6 : decode cX11_mean 6 = .ok ((.iconst 0), 1) := by decide +kernel
theorem dX11_mean_7 : decode cX11_mean 7 = .ok ((.putfield 63), 3) := by decide +kernel
theorem dX11_mean_10 : decode cX11_mean 10 = .ok ((.iload_n 2), 1) := by decide +kernel
theorem dX11_mean_11 : decode cX11_mean 11 = .ok (.i2l, 1) := by decide +kernel
theorem dX11_mean_12 : decode cX11_mean 12 = .ok ((.lconst 1), 1) := by decide +kernel
theorem dX11_mean_13 : decode cX11_mean 13 = .ok ((.ldc2_w 497), 3) := by decide +kernel
theorem dX11_mean_16 : decode cX11_mean 16 = .ok ((.invokestatic 95), 3) := by decide +kernel
theorem dX11_mean_19 : decode cX11_mean 19 = .ok ((.ifCond .eq 18), 3) := by decide +kernel
theorem dX11_mean_22 : decode cX11_mean 22 = .ok ((.iload_n 1), 1) := by decide +kernel
theorem dX11_mean_23 : decode cX11_mean 23 = .ok (.i2l, 1) := by decide +kernel
theorem dX11_mean_24 : decode cX11_mean 24 = .ok ((.lconst 0), 1) := by decide +kernel
theorem dX11_mean_25 : decode cX11_mean 25 = .ok ((.sipush 10000), 3) := by decide +kernel
theorem dX11_mean_28 : decode cX11_mean 28 = .ok ((.iload_n 2), 1) := by decide +kernel
theorem dX11_mean_29 : decode cX11_mean 29 = .ok (.isub, 1) := by decide +kernel
theorem dX11_mean_30 : decode cX11_mean 30 = .ok (.i2l, 1) := by decide +kernel
theorem dX11_mean_31 : decode cX11_mean 31 = .ok ((.invokestatic 95), 3) := by decide +kernel
theorem dX11_mean_34 : decode cX11_mean 34 = .ok ((.ifCond .ne 9), 3) := by decide +kernel
theorem dX11_mean_37 : decode cX11_mean 37 = .ok ((.aload_n 0), 1) := by decide +kernel
theorem dX11_mean_38 : decode cX11_mean 38 = .ok ((.iconst 5), 1) := by decide +kernel
theorem dX11_mean_39 : decode cX11_mean 39 = .ok ((.invokevirtual 75), 3) := by decide +kernel
theorem dX11_mean_42 : decode cX11_mean 42 = .ok (.ireturn, 1) := by decide +kernel
theorem dX11_mean_43 : decode cX11_mean 43 = .ok ((.aload_n 0), 1) := by decide +kernel
theorem dX11_mean_44 : decode cX11_mean 44 = .ok ((.getfield 35), 3) := by decide +kernel
theorem dX11_mean_47 : decode cX11_mean 47 = .ok ((.bipush 108), 2) := by decide +kernel
theorem dX11_mean_49 : decode cX11_mean 49 = .ok (.iaload, 1) := by decide +kernel
theorem dX11_mean_50 : decode cX11_mean 50 = .ok ((.ifCond .ne 10), 3) := by decide +kernel
theorem dX11_mean_53 : decode cX11_mean 53 = .ok ((.aload_n 0), 1) := by decide +kernel
theorem dX11_mean_54 : decode cX11_mean 54 = .ok ((.bipush 8), 2) := by decide +kernel
theorem dX11_mean_56 : decode cX11_mean 56 = .ok ((.invokevirtual 75), 3) := by decide +kernel
theorem dX11_mean_59 : decode cX11_mean 59 = .ok (.ireturn, 1) := by decide +kernel
theorem dX11_mean_60 : decode cX11_mean 60 = .ok ((.iconst 0), 1) := by decide +kernel
theorem dX11_mean_61 : decode cX11_mean 61 = .ok ((.istore_n 3), 1) := by decide +kernel
theorem dX11_mean_62 : decode cX11_mean 62 = .ok ((.iload_n 3), 1) := by decide +kernel
theorem dX11_mean_63 : decode cX11_mean 63 = .ok ((.bipush 108), 2) := by decide +kernel
theorem dX11_mean_65 : decode cX11_mean 65 = .ok ((.if_icmp .ge 21), 3) := by decide +kernel
theorem dX11_mean_68 : decode cX11_mean 68 = .ok ((.aload_n 0), 1) := by decide +kernel
theorem dX11_mean_69 : decode cX11_mean 69 = .ok ((.getfield 38), 3) := by decide +kernel
theorem dX11_mean_72 : decode cX11_mean 72 = .ok ((.iload_n 3), 1) := by decide +kernel
theorem dX11_mean_73 : decode cX11_mean 73 = .ok ((.aload_n 0), 1) := by decide +kernel
theorem dX11_mean_74 : decode cX11_mean 74 = .ok ((.getfield 35), 3) := by decide +kernel
theorem dX11_mean_77 : decode cX11_mean 77 = .ok ((.iload_n 3), 1) := by decide +kernel
theorem dX11_mean_78 : decode cX11_mean 78 = .ok (.iaload, 1) := by decide +kernel
theorem dX11_mean_79 : decode cX11_mean 79 = .ok (.iastore, 1) := by decide +kernel
theorem dX11_mean_80 : decode cX11_mean 80 = .ok ((.iinc 3 1), 3) := by decide +kernel
theorem dX11_mean_83 : decode cX11_mean 83 = .ok ((.goto (-21)), 3) := by decide +kernel
theorem dX11_mean_86 : decode cX11_mean 86 = .ok ((.lconst 0), 1) := by decide +kernel
theorem dX11_mean_87 : decode cX11_mean 87 = .ok ((.lstore_n 3), 1) := by decide +kernel
theorem dX11_mean_88 : decode cX11_mean 88 = .ok ((.iconst 0), 1) := by decide +kernel
theorem dX11_mean_89 : decode cX11_mean 89 = .ok ((.istore 5), 2) := by decide +kernel
theorem dX11_mean_91 : decode cX11_mean 91 = .ok ((.iload 5), 2) := by decide +kernel
theorem dX11_mean_93 : decode cX11_mean 93 = .ok ((.iload_n 2), 1) := by decide +kernel
theorem dX11_mean_94 : decode cX11_mean 94 = .ok ((.if_icmp .ge 58), 3) := by decide +kernel
theorem dX11_mean_97 : decode cX11_mean 97 = .ok ((.aload_n 0), 1) := by decide +kernel
theorem dX11_mean_98 : decode cX11_mean 98 = .ok ((.iload_n 1), 1) := by decide +kernel
theorem dX11_mean_99 : decode cX11_mean 99 = .ok ((.iload 5), 2) := by decide +kernel
theorem dX11_mean_101 : decode cX11_mean 101 = .ok (.iadd, 1) := by decide +kernel
theorem dX11_mean_102 : decode cX11_mean 102 = .ok ((.invokevirtual 489), 3) := by decide +kernel
theorem dX11_mean_105 : decode cX11_mean 105 = .ok ((.lload_n 3), 1) := by decide +kernel
theorem dX11_mean_106 : decode cX11_mean 106 = .ok ((.aload_n 0), 1) := by decide +kernel
theorem dX11_mean_107 : decode cX11_mean 107 = .ok ((.getfield 35), 3) := by decide +kernel
theorem dX11_mean_110 : decode cX11_mean 110 = .ok ((.bipush 6), 2) := by decide +kernel
theorem dX11_mean_112 : decode cX11_mean 112 = .ok (.iaload, 1) := by decide +kernel
theorem dX11_mean_113 : decode cX11_mean 113 = .ok (.i2l, 1) := by decide +kernel
theorem dX11_mean_114 : decode cX11_mean 114 = .ok (.ladd, 1) := by decide +kernel
theorem dX11_mean_115 : decode cX11_mean 115 = .ok ((.lstore_n 3), 1) := by decide +kernel
theorem dX11_mean_116 : decode cX11_mean 116 = .ok ((.iconst 0), 1) := by decide +kernel
theorem dX11_mean_117 : decode cX11_mean 117 = .ok ((.istore 6), 2) := by decide +kernel
theorem dX11_mean_119 : decode cX11_mean 119 = .ok ((.iload 6), 2) := by decide +kernel
theorem dX11_mean_121 : decode cX11_mean 121 = .ok ((.bipush 108), 2) := by decide +kernel
theorem dX11_mean_123 : decode cX11_mean 123 = .ok ((.if_icmp .ge 23), 3) := by decide +kernel
theorem dX11_mean_126 : decode cX11_mean 126 = .ok ((.aload_n 0), 1) := by decide +kernel
theorem dX11_mean_127 : decode cX11_mean 127 = .ok ((.getfield 35), 3) := by decide +kernel
theorem dX11_mean_130 : decode cX11_mean 130 = .ok ((.iload 6), 2) := by decide +kernel
theorem dX11_mean_132 : decode cX11_mean 132 = .ok ((.aload_n 0), 1) := by decide +kernel
theorem dX11_mean_133 : decode cX11_mean 133 = .ok ((.getfield 38), 3) := by decide +kernel
theorem dX11_mean_136 : decode cX11_mean 136 = .ok ((.iload 6), 2) := by decide +kernel
theorem dX11_mean_138 : decode cX11_mean 138 = .ok (.iaload, 1) := by decide +kernel
theorem dX11_mean_139 : decode cX11_mean 139 = .ok (.iastore, 1) := by decide +kernel
theorem dX11_mean_140 : decode cX11_mean 140 = .ok ((.iinc 6 1), 3) := by decide +kernel
theorem dX11_mean_143 : decode cX11_mean 143 = .ok ((.goto (-24)), 3) := by decide +kernel
theorem dX11_mean_146 : decode cX11_mean 146 = .ok ((.iinc 5 1), 3) := by decide +kernel
theorem dX11_mean_149 : decode cX11_mean 149 = .ok ((.goto (-58)), 3) := by decide +kernel
theorem dX11_mean_152 : decode cX11_mean 152 = .ok ((.aload_n 0), 1) := by decide +kernel
theorem dX11_mean_153 : decode cX11_mean 153 = .ok ((.lload_n 3), 1) := by decide +kernel
theorem dX11_mean_154 : decode cX11_mean 154 = .ok ((.iload_n 2), 1) := by decide +kernel
theorem dX11_mean_155 : decode cX11_mean 155 = .ok (.i2l, 1) := by decide +kernel
theorem dX11_mean_156 : decode cX11_mean 156 = .ok ((.invokevirtual 388), 3) := by decide +kernel
theorem dX11_mean_159 : decode cX11_mean 159 = .ok (.ireturn, 1) := by decide +kernel
def p_X11_mean_37  (a1 : Int32) (a2 : Int32)   (post : Bool → vSt → Prop) (S : vSt)  : Prop := p_X11_no  S 5 (fun r34 S33 => post r34 S33)
def p_X11_mean_119  (a1 : Int32) (a2 : Int32)  (K91 : vSt → Int64 → Int32 → Prop) (post : Bool → vSt → Prop) : Nat → vSt → Int64 → Int32 → Int32 → Prop
  | 0 => fun _ _ _ _ => False
  | fu119 + 1 => fun S x3 x5 x6 => ((108 ≤ x6 → ∀ y39 : Int32, y39 = x5 + 1 → K91 S x3 y39) ∧ (¬ 108 ≤ x6 → (vp_in x6 108 ∧ (vp_in x6 1900 ∧ ∀ S40, S40 = v_si S 148 (Int32.toNatClampNeg x6) (S.1 149 (Int32.toNatClampNeg x6)) → ∀ y41 : Int32, y41 = x6 + 1 → (p_X11_mean_119 a1 a2 K91 post fu119) S40 x3 x5 y41))))
theorem e_X11_mean_119  (a1 : Int32) (a2 : Int32)  (K91 : vSt → Int64 → Int32 → Prop) (post : Bool → vSt → Prop) (fu119 : Nat) (S : vSt) (x3 : Int64) (x5 : Int32) (x6 : Int32) : p_X11_mean_119 a1 a2 K91 post (fu119 + 1) S x3 x5 x6 = (((108 ≤ x6 → ∀ y39 : Int32, y39 = x5 + 1 → K91 S x3 y39) ∧ (¬ 108 ≤ x6 → (vp_in x6 108 ∧ (vp_in x6 1900 ∧ ∀ S40, S40 = v_si S 148 (Int32.toNatClampNeg x6) (S.1 149 (Int32.toNatClampNeg x6)) → ∀ y41 : Int32, y41 = x6 + 1 → (p_X11_mean_119 a1 a2 K91 post fu119) S40 x3 x5 y41))))) := rfl
def p_X11_mean_91  (a1 : Int32) (a2 : Int32)   (post : Bool → vSt → Prop) : Nat → vSt → Int64 → Int32 → Prop
  | 0 => fun _ _ _ => False
  | fu91 + 1 => fun S x3 x5 => ((a2 ≤ x5 → p_X11_fraction  S x3 (Int32.toInt64 a2) (fun r36 S35 => post r36 S35)) ∧ (¬ a2 ≤ x5 → p_X11_runsYears  S (a1 + x5) (fun S37 => (vp_in 6 1900 ∧ ∀ y38 : Int64, y38 = (x3 + (Int32.toInt64 (S37.1 148 (Int32.toNatClampNeg 6)))) → ∃ fu119, p_X11_mean_119 a1 a2 (p_X11_mean_91 a1 a2 post fu91) post fu119 S37 y38 x5 0))))
theorem e_X11_mean_91  (a1 : Int32) (a2 : Int32)   (post : Bool → vSt → Prop) (fu91 : Nat) (S : vSt) (x3 : Int64) (x5 : Int32) : p_X11_mean_91 a1 a2 post (fu91 + 1) S x3 x5 = (((a2 ≤ x5 → p_X11_fraction  S x3 (Int32.toInt64 a2) (fun r36 S35 => post r36 S35)) ∧ (¬ a2 ≤ x5 → p_X11_runsYears  S (a1 + x5) (fun S37 => (vp_in 6 1900 ∧ ∀ y38 : Int64, y38 = (x3 + (Int32.toInt64 (S37.1 148 (Int32.toNatClampNeg 6)))) → ∃ fu119, p_X11_mean_119 a1 a2 (p_X11_mean_91 a1 a2 post fu91) post fu119 S37 y38 x5 0))))) := rfl
def p_X11_mean_62  (a1 : Int32) (a2 : Int32)   (post : Bool → vSt → Prop) : Nat → vSt → Int32 → Prop
  | 0 => fun _ _ => False
  | fu62 + 1 => fun S x3 => ((108 ≤ x3 → ∃ fu91, p_X11_mean_91 a1 a2 post fu91 S 0 0) ∧ (¬ 108 ≤ x3 → (vp_in x3 1900 ∧ (vp_in x3 108 ∧ ∀ S35, S35 = v_si S 149 (Int32.toNatClampNeg x3) (S.1 148 (Int32.toNatClampNeg x3)) → ∀ y36 : Int32, y36 = x3 + 1 → (p_X11_mean_62 a1 a2 post fu62) S35 y36))))
theorem e_X11_mean_62  (a1 : Int32) (a2 : Int32)   (post : Bool → vSt → Prop) (fu62 : Nat) (S : vSt) (x3 : Int32) : p_X11_mean_62 a1 a2 post (fu62 + 1) S x3 = (((108 ≤ x3 → ∃ fu91, p_X11_mean_91 a1 a2 post fu91 S 0 0) ∧ (¬ 108 ≤ x3 → (vp_in x3 1900 ∧ (vp_in x3 108 ∧ ∀ S35, S35 = v_si S 149 (Int32.toNatClampNeg x3) (S.1 148 (Int32.toNatClampNeg x3)) → ∀ y36 : Int32, y36 = x3 + 1 → (p_X11_mean_62 a1 a2 post fu62) S35 y36))))) := rfl
def p_X11_mean   (S : vSt) (a1 : Int32) (a2 : Int32) (post : Bool → vSt → Prop) : Prop := ∀ S29, S29 = v_si S 143 1 0 → ∀ S30, S30 = v_si S29 143 0 0 → p_X11_isIn  S30 (Int32.toInt64 a2) 1 20 (fun r32 S31 => ((r32 = false → p_X11_mean_37 a1 a2 post S31 ) ∧ (r32 = true → p_X11_isIn  S31 (Int32.toInt64 a1) 0 (Int32.toInt64 (10000 - a2)) (fun r34 S33 => ((r34 = true → (vp_in 108 1900 ∧ ((¬ (S33.1 148 (Int32.toNatClampNeg 108)) = 0 → ∃ fu62, p_X11_mean_62 a1 a2 post fu62 S33 0) ∧ ((S33.1 148 (Int32.toNatClampNeg 108)) = 0 → p_X11_no  S33 8 (fun r36 S35 => post r36 S35))))) ∧ (r34 = false → p_X11_mean_37 a1 a2 post S33 ))))))
set_option maxHeartbeats 4000000 in
set_option maxRecDepth 100000 in
theorem q_X11_mean_37 {X : vX} {G : vG}  {post : Bool → vSt → Prop} (C : v_Cx X G cX11_mean RX11 7 (v_rm 58 1636)) (D : v_Rx X G (v_Qz G post) (some .boolean))  {a1 : Int32} {a2 : Int32}   : ∀ (S : vSt), p_X11_mean_37 a1 a2 post S  → VJ X G S 37 [(0, .ref (G.1 143))] [] := by
  intro S  h
  refine V_aload_n C 0 dX11_mean_37 rfl rfl ?_
  refine V_iconst (v := 5) C dX11_mean_38 (by decide) ?_
  refine V_callVz (As := [.int 5]) (rest := []) C (c_X11_no (v_l X) G  _ _ h) 143 11 (by decide) (by decide) (by decide) rfl KV_X11_no k_RX11_75 rfl rfl rfl (Nat.le_of_ble_eq_true rfl) ⟨Nat.le_of_ble_eq_true rfl, Nat.le_of_ble_eq_true rfl⟩ dX11_mean_39 (fun r34 S33 h => ?_)
  exact V_zret C D dX11_mean_42 h
set_option maxHeartbeats 4000000 in
set_option maxRecDepth 100000 in
theorem q_X11_mean_119 {X : vX} {G : vG}  {post : Bool → vSt → Prop} (C : v_Cx X G cX11_mean RX11 7 (v_rm 58 1636)) (D : v_Rx X G (v_Qz G post) (some .boolean))  {a1 : Int32} {a2 : Int32}  {K91 : vSt → Int64 → Int32 → Prop} (hK91 : ∀ S x3 x5, K91 S x3 x5 → VJ X G S 91 [(0, .ref (G.1 143)), (1, .int a1), (2, .int a2), (3, .long x3), (5, .int x5)] []) : ∀ (fu : Nat) (S : vSt) (x3 : Int64) (x5 : Int32) (x6 : Int32), p_X11_mean_119 a1 a2 K91 post fu S x3 x5 x6 → VJ X G S 119 [(0, .ref (G.1 143)), (1, .int a1), (2, .int a2), (3, .long x3), (5, .int x5), (6, .int x6)] [] := by
  intro fu
  induction fu with
  | zero => intro S x3 x5 x6 h; exact absurd h id
  | succ fu ih =>
    intro S x3 x5 x6 h
    have hK119 := ih
    rw [e_X11_mean_119] at h
    refine V_iload C 5 dX11_mean_119 rfl ?_
    refine V_bipush (v := 108) C dX11_mean_121 (by decide) ?_
    refine V_icmp_ge (tgt := 146) C dX11_mean_123 (by decide) (fun c => ?_) (fun c => ?_)
    · have h := h.1 c
      obtain ⟨y39, ey39⟩ : ∃ z : Int32, z = x5 + 1 := ⟨_, rfl⟩
      have h := h y39 ey39
      refine V_iinc (lv' := [(0, .ref (G.1 143)), (1, .int a1), (2, .int a2), (3, .long x3), (5, .int y39), (6, .int x6)]) C 4 [1, 2, 3, 4, 0, 5] y39 dX11_mean_146 rfl (by rw [ey39]; rfl) (by decide) rfl ?_
      refine V_goto (tgt := 91) C dX11_mean_149 (by decide) ?_
      refine V_loc (lv' := [(0, .ref (G.1 143)), (1, .int a1), (2, .int a2), (3, .long x3), (5, .int y39)]) [0, 1, 2, 3, 4] rfl ?_
      exact hK91 _ _ _ h
    · have h := h.2 c
      refine V_aload_n C 0 dX11_mean_126 rfl rfl ?_
      refine V_ga C 143 (by decide) (by decide) F_11_20 k_RX11_35 dX11_mean_127 ?_
      refine V_iload C 5 dX11_mean_130 rfl ?_
      refine V_aload_n C 0 dX11_mean_132 rfl rfl ?_
      refine V_ga C 143 (by decide) (by decide) F_11_21 k_RX11_38 dX11_mean_133 ?_
      refine V_iload C 5 dX11_mean_136 rfl ?_
      obtain ⟨hi, h⟩ := h
      refine V_iald C 149 108 (by decide) (by decide) hi dX11_mean_138 ?_
      obtain ⟨hi, h⟩ := h
      refine V_iast C 148 1900 (by decide) (by decide) hi dX11_mean_139 ?_
      refine V_topS (fun S40 eS40 => ?_)
      have h := h S40 eS40
      obtain ⟨y41, ey41⟩ : ∃ z : Int32, z = x6 + 1 := ⟨_, rfl⟩
      have h := h y41 ey41
      refine V_iinc (lv' := [(0, .ref (G.1 143)), (1, .int a1), (2, .int a2), (3, .long x3), (5, .int x5), (6, .int y41)]) C 5 [1, 2, 3, 4, 5, 0] y41 dX11_mean_140 rfl (by rw [ey41]; rfl) (by decide) rfl ?_
      refine V_goto (tgt := 119) C dX11_mean_143 (by decide) ?_
      exact hK119 _ _ _ _ h
set_option maxHeartbeats 4000000 in
set_option maxRecDepth 100000 in
theorem q_X11_mean_91 {X : vX} {G : vG}  {post : Bool → vSt → Prop} (C : v_Cx X G cX11_mean RX11 7 (v_rm 58 1636)) (D : v_Rx X G (v_Qz G post) (some .boolean))  {a1 : Int32} {a2 : Int32}   : ∀ (fu : Nat) (S : vSt) (x3 : Int64) (x5 : Int32), p_X11_mean_91 a1 a2 post fu S x3 x5 → VJ X G S 91 [(0, .ref (G.1 143)), (1, .int a1), (2, .int a2), (3, .long x3), (5, .int x5)] [] := by
  intro fu
  induction fu with
  | zero => intro S x3 x5 h; exact absurd h id
  | succ fu ih =>
    intro S x3 x5 h
    have hK91 := ih
    rw [e_X11_mean_91] at h
    refine V_iload C 4 dX11_mean_91 rfl ?_
    refine V_iload_n C 2 dX11_mean_93 rfl rfl ?_
    refine V_icmp_ge (tgt := 152) C dX11_mean_94 (by decide) (fun c => ?_) (fun c => ?_)
    · have h := h.1 c
      refine V_aload_n C 0 dX11_mean_152 rfl rfl ?_
      refine V_lload_n C 3 dX11_mean_153 rfl rfl ?_
      refine V_iload_n C 2 dX11_mean_154 rfl rfl ?_
      refine V_i2l C dX11_mean_155 ?_
      refine V_callVz (As := [.long x3, .long (Int32.toInt64 a2)]) (rest := []) C (c_X11_fraction (v_l X) G  _ _ _ h) 143 11 (by decide) (by decide) (by decide) rfl KV_X11_fraction k_RX11_388 rfl rfl rfl (Nat.le_of_ble_eq_true rfl) ⟨Nat.le_of_ble_eq_true rfl, Nat.le_of_ble_eq_true rfl⟩ dX11_mean_156 (fun r36 S35 h => ?_)
      exact V_zret C D dX11_mean_159 h
    · have h := h.2 c
      refine V_aload_n C 0 dX11_mean_97 rfl rfl ?_
      refine V_iload_n C 1 dX11_mean_98 rfl rfl ?_
      refine V_iload C 4 dX11_mean_99 rfl ?_
      refine V_iadd C dX11_mean_101 ?_
      refine V_callVv (As := [.int (a1 + x5)]) (rest := []) C (c_X11_runsYears (v_l X) G  _ _ h) 143 11 (by decide) (by decide) (by decide) rfl KV_X11_runsYears k_RX11_489 rfl rfl rfl (Nat.le_of_ble_eq_true rfl) ⟨Nat.le_of_ble_eq_true rfl, Nat.le_of_ble_eq_true rfl⟩ dX11_mean_102 (fun S37 h => ?_)
      refine V_lload_n C 3 dX11_mean_105 rfl rfl ?_
      refine V_aload_n C 0 dX11_mean_106 rfl rfl ?_
      refine V_ga C 143 (by decide) (by decide) F_11_20 k_RX11_35 dX11_mean_107 ?_
      refine V_bipush (v := 6) C dX11_mean_110 (by decide) ?_
      obtain ⟨hi, h⟩ := h
      refine V_iald C 148 1900 (by decide) (by decide) hi dX11_mean_112 ?_
      refine V_i2l C dX11_mean_113 ?_
      refine V_ladd C dX11_mean_114 ?_
      refine V_topl (fun y38 ey38 => ?_)
      have h := h y38 ey38
      refine V_lstore_n (lv' := [(0, .ref (G.1 143)), (1, .int a1), (2, .int a2), (3, .long y38), (5, .int x5)]) C [1, 2, 3, 0, 4] dX11_mean_115 rfl (by decide) rfl ?_
      refine V_iconst (v := 0) C dX11_mean_116 (by decide) ?_
      refine V_istore (lv' := [(0, .ref (G.1 143)), (1, .int a1), (2, .int a2), (3, .long y38), (5, .int x5), (6, .int 0)]) C [1, 2, 3, 4, 5, 0] dX11_mean_117 (by decide) rfl ?_
      obtain ⟨fu119, h⟩ := h
      exact q_X11_mean_119 C D hK91 fu119 _ _ _ _ h
set_option maxHeartbeats 4000000 in
set_option maxRecDepth 100000 in
theorem q_X11_mean_62 {X : vX} {G : vG}  {post : Bool → vSt → Prop} (C : v_Cx X G cX11_mean RX11 7 (v_rm 58 1636)) (D : v_Rx X G (v_Qz G post) (some .boolean))  {a1 : Int32} {a2 : Int32}   : ∀ (fu : Nat) (S : vSt) (x3 : Int32), p_X11_mean_62 a1 a2 post fu S x3 → VJ X G S 62 [(0, .ref (G.1 143)), (1, .int a1), (2, .int a2), (3, .int x3)] [] := by
  intro fu
  induction fu with
  | zero => intro S x3 h; exact absurd h id
  | succ fu ih =>
    intro S x3 h
    have hK62 := ih
    rw [e_X11_mean_62] at h
    refine V_iload_n C 3 dX11_mean_62 rfl rfl ?_
    refine V_bipush (v := 108) C dX11_mean_63 (by decide) ?_
    refine V_icmp_ge (tgt := 86) C dX11_mean_65 (by decide) (fun c => ?_) (fun c => ?_)
    · have h := h.1 c
      refine V_lconst (v := 0) C dX11_mean_86 (by decide) ?_
      refine V_lstore_n (lv' := [(0, .ref (G.1 143)), (1, .int a1), (2, .int a2), (3, .long 0)]) C [1, 2, 3, 0] dX11_mean_87 rfl (by decide) rfl ?_
      refine V_iconst (v := 0) C dX11_mean_88 (by decide) ?_
      refine V_istore (lv' := [(0, .ref (G.1 143)), (1, .int a1), (2, .int a2), (3, .long 0), (5, .int 0)]) C [1, 2, 3, 4, 0] dX11_mean_89 (by decide) rfl ?_
      obtain ⟨fu91, h⟩ := h
      exact q_X11_mean_91 C D  fu91 _ _ _ h
    · have h := h.2 c
      refine V_aload_n C 0 dX11_mean_68 rfl rfl ?_
      refine V_ga C 143 (by decide) (by decide) F_11_21 k_RX11_38 dX11_mean_69 ?_
      refine V_iload_n C 3 dX11_mean_72 rfl rfl ?_
      refine V_aload_n C 0 dX11_mean_73 rfl rfl ?_
      refine V_ga C 143 (by decide) (by decide) F_11_20 k_RX11_35 dX11_mean_74 ?_
      refine V_iload_n C 3 dX11_mean_77 rfl rfl ?_
      obtain ⟨hi, h⟩ := h
      refine V_iald C 148 1900 (by decide) (by decide) hi dX11_mean_78 ?_
      obtain ⟨hi, h⟩ := h
      refine V_iast C 149 108 (by decide) (by decide) hi dX11_mean_79 ?_
      refine V_topS (fun S35 eS35 => ?_)
      have h := h S35 eS35
      obtain ⟨y36, ey36⟩ : ∃ z : Int32, z = x3 + 1 := ⟨_, rfl⟩
      have h := h y36 ey36
      refine V_iinc (lv' := [(0, .ref (G.1 143)), (1, .int a1), (2, .int a2), (3, .int y36)]) C 3 [1, 2, 3, 0] y36 dX11_mean_80 rfl (by rw [ey36]; rfl) (by decide) rfl ?_
      refine V_goto (tgt := 62) C dX11_mean_83 (by decide) ?_
      exact hK62 _ _ h
set_option maxHeartbeats 4000000 in
set_option maxRecDepth 100000 in
theorem c_X11_mean (l : Launch) (G : vG)    {S : vSt} (a1 : Int32) (a2 : Int32) (post : Bool → vSt → Prop) (h : p_X11_mean   S a1 a2 post) : Met l yX11_mean (v_ws yX11_mean cX11_mean 7 (some .boolean)) (v_rm 58 1636) (v_Pc G [.ref (G.1 143), .int a1, .int a2] S) (v_Qz G post) 0 0 (v_A G) := by
  refine v_start (by decide +kernel) (Nat.le_of_ble_eq_true rfl) (fun X hl C D => ?_)
  subst hl
  have C : v_Cx X G cX11_mean RX11 7 (v_rm 58 1636) := C
  show VJ X G S 0 [(0, .ref (G.1 143)), (1, .int a1), (2, .int a2)] []
  refine V_aload_n C 0 dX11_mean_0 rfl rfl ?_
  refine V_iconst (v := 0) C dX11_mean_1 (by decide) ?_
  refine V_pi C 143 (by decide) (by decide) P_11_1 k_RX11_60 dX11_mean_2 ?_
  refine V_topS (fun S29 eS29 => ?_)
  have h := h S29 eS29
  refine V_aload_n C 0 dX11_mean_5 rfl rfl ?_
  refine V_iconst (v := 0) C dX11_mean_6 (by decide) ?_
  refine V_pi C 143 (by decide) (by decide) P_11_0 k_RX11_63 dX11_mean_7 ?_
  refine V_topS (fun S30 eS30 => ?_)
  have h := h S30 eS30
  refine V_iload_n C 2 dX11_mean_10 rfl rfl ?_
  refine V_i2l C dX11_mean_11 ?_
  refine V_lconst (v := 1) C dX11_mean_12 (by decide) ?_
  refine V_ldc2 (v := 20) C k_RX11_497 dX11_mean_13 ?_
  refine V_callSz (As := [.long (Int32.toInt64 a2), .long 1, .long 20]) (rest := []) C (c_X11_isIn (v_l X) G  _ _ _ _ h) KV_X11_isIn k_RX11_95 rfl rfl rfl (Nat.le_of_ble_eq_true rfl) ⟨Nat.le_of_ble_eq_true rfl, Nat.le_of_ble_eq_true rfl⟩ dX11_mean_16 (fun r32 S31 h => ?_)
  refine V_ifb_eq (tgt := 37) C dX11_mean_19 (by decide) (fun c => ?_) (fun c => ?_)
  · have h := h.1 c
    refine V_loc (lv' := [(0, .ref (G.1 143))]) [0] rfl ?_
    exact q_X11_mean_37 C D  _ h
  · have h := h.2 c
    refine V_iload_n C 1 dX11_mean_22 rfl rfl ?_
    refine V_i2l C dX11_mean_23 ?_
    refine V_lconst (v := 0) C dX11_mean_24 (by decide) ?_
    refine V_sipush (v := 10000) C dX11_mean_25 (by decide) ?_
    refine V_iload_n C 2 dX11_mean_28 rfl rfl ?_
    refine V_isub C dX11_mean_29 ?_
    refine V_i2l C dX11_mean_30 ?_
    refine V_callSz (As := [.long (Int32.toInt64 a1), .long 0, .long (Int32.toInt64 (10000 - a2))]) (rest := []) C (c_X11_isIn (v_l X) G  _ _ _ _ h) KV_X11_isIn k_RX11_95 rfl rfl rfl (Nat.le_of_ble_eq_true rfl) ⟨Nat.le_of_ble_eq_true rfl, Nat.le_of_ble_eq_true rfl⟩ dX11_mean_31 (fun r34 S33 h => ?_)
    refine V_ifb_ne (tgt := 43) C dX11_mean_34 (by decide) (fun c => ?_) (fun c => ?_)
    · have h := h.1 c
      refine V_aload_n C 0 dX11_mean_43 rfl rfl ?_
      refine V_ga C 143 (by decide) (by decide) F_11_20 k_RX11_35 dX11_mean_44 ?_
      refine V_bipush (v := 108) C dX11_mean_47 (by decide) ?_
      obtain ⟨hi, h⟩ := h
      refine V_iald C 148 1900 (by decide) (by decide) hi dX11_mean_49 ?_
      refine V_if_ne (tgt := 60) C dX11_mean_50 (by decide) (fun c => ?_) (fun c => ?_)
      · have h := h.1 c
        refine V_iconst (v := 0) C dX11_mean_60 (by decide) ?_
        refine V_istore_n (lv' := [(0, .ref (G.1 143)), (1, .int a1), (2, .int a2), (3, .int 0)]) C [1, 2, 3, 0] dX11_mean_61 rfl (by decide) rfl ?_
        obtain ⟨fu62, h⟩ := h
        exact q_X11_mean_62 C D  fu62 _ _ h
      · have h := h.2 c
        refine V_aload_n C 0 dX11_mean_53 rfl rfl ?_
        refine V_bipush (v := 8) C dX11_mean_54 (by decide) ?_
        refine V_callVz (As := [.int 8]) (rest := []) C (c_X11_no (v_l X) G  _ _ h) 143 11 (by decide) (by decide) (by decide) rfl KV_X11_no k_RX11_75 rfl rfl rfl (Nat.le_of_ble_eq_true rfl) ⟨Nat.le_of_ble_eq_true rfl, Nat.le_of_ble_eq_true rfl⟩ dX11_mean_56 (fun r36 S35 h => ?_)
        exact V_zret C D dX11_mean_59 h
    · have h := h.2 c
      refine V_loc (lv' := [(0, .ref (G.1 143))]) [0] rfl ?_
      exact q_X11_mean_37 C D  _ h
