section VK
variable {X : vX} {G : vG} {cc : ByteArray} {own : String} {nL : Nat} {R : Room} {S : vSt} {pc : Nat} {lv lv' : List (Nat × Value)} {st : List Value}
theorem V_kval (C : v_Cx X G cc own nL R) {i : Nat} (hw : Cond.fieldLink own i "java/lang/String" "value" "[B" ∈ wsL_law) (hd : decode cc pc = .ok (.getfield i, 3)) (kk : VJ X G S (pc + 3) lv (.ref (G.1 149) :: st)) : VJ X G S pc lv (.ref (G.1 148) :: st) := fun H locs ls hP hS h => vk_getf C.x C.b (C.EX.1.2.2.1.1 0 (by decide)).2.2.1 hS C.ow (C.ts _ hw) (fun _ z => z) hd (kk H locs ls hP hS h)
theorem V_kcod (C : v_Cx X G cc own nL R) {i : Nat} (hw : Cond.fieldLink own i "java/lang/String" "coder" "B" ∈ wsL_law) (hd : decode cc pc = .ok (.getfield i, 3)) (kk : VJ X G S (pc + 3) lv (.int 0 :: st)) : VJ X G S pc lv (.ref (G.1 148) :: st) := fun H locs ls hP hS h => vk_getf C.x C.b (C.EX.1.2.2.1.1 0 (by decide)).2.1 hS C.ow (C.ts _ hw) (fun _ z => z) hd (kk H locs ls hP hS h)
theorem V_klen (C : v_Cx X G cc own nL R) (hd : decode cc pc = .ok (.arraylength, 1)) (kk : VJ X G S (pc + 1) lv (.int 120 :: st)) : VJ X G S pc lv (.ref (G.1 149) :: st) := fun H locs ls hP hS h => va_tlen C.x C.b (C.EX.1.2.2.1.1 0 (by decide)).2.2.2 hS rfl hd (kk H locs ls hP hS h)
theorem V_kald (C : v_Cx X G cc own nL R) {x : Int32} (hi : vp_in x 120) (hd : decode cc pc = .ok (.baload, 1)) (kk : VJ X G S (pc + 1) lv (.int (v_kw.getD x.toNatClampNeg 0) :: st)) : VJ X G S pc lv (.int x :: .ref (G.1 149) :: st) := fun H locs ls hP hS h => va_tb C.x C.b (C.EX.1.2.2.1.1 0 (by decide)).2.2.2 hS hi rfl hd (kk H locs ls hP hS h)
theorem V_getc (C : v_Cx X G cc own nL R) {i : Nat} (hw : Cond.fieldLink own i "java/lang/String" "COMPACT_STRINGS" "Z" ∈ wsL_law) (hd : decode cc pc = .ok (.getstatic i, 3)) (kk : VJ X G S (pc + 3) lv (.int 1 :: st)) : VJ X G S pc lv st := fun H locs ls hP hS h => va_gets C.x C.b C.EX.1.2.2.2.1 hS C.ow (C.ts _ hw) (fun _ z => z) hd (kk H locs ls hP hS h)
theorem V_getq (C : v_Cx X G cc own nL R) {i : Nat} (hw : Cond.fieldLink own i "jdk/internal/util/Preconditions" "SIOOBE_FORMATTER" "Ljava/util/function/BiFunction;" ∈ wsL_law) (hd : decode cc pc = .ok (.getstatic i, 3)) (kk : ∀ v : Value, v.category = 1 → VJ X G S (pc + 3) lv (v :: st)) : VJ X G S pc lv st := fun H locs ls hP hS h => by
  rcases C.EX.1.2.2.2.2.1 with z | ⟨t, z⟩
  · exact va_gets C.x C.b z hS C.ow (C.ts _ hw) (fun _ z => z) hd (kk _ rfl H locs ls hP hS h)
  · exact va_gets C.x C.b z hS C.ow (C.ts _ hw) (fun _ z => z) hd (kk _ rfl H locs ls hP hS h)
theorem V_kldc (C : v_Cx X G cc own nL R) {i : Nat} {tx : String} (hZ : own = "HalfAccuser$Tape") (hi : i = 80) (hd : decode cc pc = .ok (.ldc i, 2)) (kk : VJ X G S (pc + 2) lv (.ref (G.1 148) :: st)) : VJ X G S pc lv st := fun H locs ls hP hS h => by
  subst hZ; subst hi
  exact va_ldcS C.x C.b C.ow (C.EX.1.2.1 0 (by decide)) hd (kk H locs ls hP hS h)
theorem V_nret (C : v_Cx X G cc own nL R) {post : Int32 → vSt → Prop} {ty : FieldType} (D : v_Rx X G (v_Qi G post) (some ty)) {v : Int32} (hn : narrow ty (.int v) = .int v) (hd : decode cc pc = .ok (.ireturn, 1)) (hp : post v S) : VJ X G S pc lv [.int v] := fun H locs ls hP hS h => by
  have key : W (v_p X) (v_l X) (v_e X) (v_R X) (v_s X) (v_m X) (v_args X) (v_below X) (v_meth X) (v_c X) H locs 0 0 (MQ (v_below X) (v_Qi G post) (v_args X) (v_s X) 0 0 (v_A G)) (F0 (v_m X) pc ls [.int v]) := W.zret (Qc := v_Qi G post) (free := v_A G) (v := v) (ls := ls) C.x C.b D.2.2.2.2.1 hn (fun t ht hW => ⟨⟨v, S, rfl, hp, v_WW.to hP C.K C.DD C.EX hS ht hW⟩, by rw [← D.2.2.2.1]; exact hS.F ht⟩) (by rw [← D.2.2.2.1]; exact hS.2.2) hd D.2.2.2.2.2
  show v_W X H locs _
  unfold v_W
  rw [D.1, D.2.1, D.2.2.1]; exact key
theorem V_i2c (C : v_Cx X G cc own nL R) {x : Int32} (hd : decode cc pc = .ok (.i2c, 1)) (k : VJ X G S (pc + 1) lv (.int (x.toUInt32 % 65536).toInt32 :: st)) : VJ X G S pc lv (.int x :: st) := fun H locs ls hP hS h => lv_i2c C.x C.b hd rfl (k H locs ls hP hS h)
theorem V_callKi (C : v_Cx X G cc own nL R) {y : MethodName} {bytes : ByteArray} {maxL fr lo i n : Nat} {ret : Option FieldType} {av : List Value} {post : Int32 → vSt → Prop} (hM : Met (v_l X) y (v_ws y bytes maxL ret) (v_rm fr lo) (v_Pc G av S) (v_Qi G post) 0 0 (v_A G)) {As rest : List Value} (KV : v_KV "java/lang/String" y bytes maxL ret n) (hw : Cond.methodLink own i y ∈ wsL_law) (hav : av = .ref (G.1 148) :: As) (hst : st = As.reverse ++ .ref (G.1 148) :: rest) (hn : As.length = n) (hrest : (rest.map fun v => v.category).sum ≤ 8) (hR : (v_rm fr lo).frames + 1 ≤ R.frames ∧ 8 + (maxL + 11) + (v_rm fr lo).locals ≤ R.locals) (hd : decode cc pc = .ok (.invokevirtual i, 3)) (kk : ∀ (r : Int32) S1, post r S1 → VJ X G S1 (pc + 3) lv (.int r :: rest)) : VJ X G S pc lv st := fun H locs ls hP hS h => by
  have hr : va_Run (v_p X) (v_l X) (v_e X) (v_R X) (v_s X) (v_m X) (v_args X) (v_below X) (v_meth X) (v_c X) H locs (v_k1 X) (v_k2 X) 0 0 (F0 (v_m X) pc ls st) rest (v_Qi G post (Value.ref (G.1 148) :: As).toArray) (v_A G) := va_runV (As := As) (rest := rest) C.fix hM (cwV n C.ts (ws' := wsL_law) (v_goodV hw KV) rfl rfl rfl KV.2.2.2.2 (by rw [C.rr]; exact hR)) ⟨v_blind, (vk_recv (i := 0) C.EX.1.2.2.1 (by decide) hS), (fun U hU hW => ⟨hav ▸ rfl, v_WW.to hP C.K C.DD C.EX hS hU hW⟩)⟩ rfl hn h.1 hst (lv_room hrest) hd ⟨C.k1, C.k2⟩
  exact va_calli hr hS (fun q _ hq => C.sub q hq) C.sub (fun r S1 t H1 locs1 ht _ hp hB _ _ hS1 => kk r S1 hp H1 locs1 ls (by have h1 := hB.1; rwa [ht] at h1) hS1 h)
theorem V_callKz (C : v_Cx X G cc own nL R) {y : MethodName} {bytes : ByteArray} {maxL fr lo i n : Nat} {ret : Option FieldType} {av : List Value} {post : Bool → vSt → Prop} (hM : Met (v_l X) y (v_ws y bytes maxL ret) (v_rm fr lo) (v_Pc G av S) (v_Qz G post) 0 0 (v_A G)) {As rest : List Value} (KV : v_KV "java/lang/String" y bytes maxL ret n) (hw : Cond.methodLink own i y ∈ wsL_law) (hav : av = .ref (G.1 148) :: As) (hst : st = As.reverse ++ .ref (G.1 148) :: rest) (hn : As.length = n) (hrest : (rest.map fun v => v.category).sum ≤ 8) (hR : (v_rm fr lo).frames + 1 ≤ R.frames ∧ 8 + (maxL + 11) + (v_rm fr lo).locals ≤ R.locals) (hd : decode cc pc = .ok (.invokevirtual i, 3)) (kk : ∀ (b : Bool) S1, post b S1 → VJ X G S1 (pc + 3) lv (.int (v_b b) :: rest)) : VJ X G S pc lv st := fun H locs ls hP hS h => by
  have hr : va_Run (v_p X) (v_l X) (v_e X) (v_R X) (v_s X) (v_m X) (v_args X) (v_below X) (v_meth X) (v_c X) H locs (v_k1 X) (v_k2 X) 0 0 (F0 (v_m X) pc ls st) rest (v_Qz G post (Value.ref (G.1 148) :: As).toArray) (v_A G) := va_runV (As := As) (rest := rest) C.fix hM (cwV n C.ts (ws' := wsL_law) (v_goodV hw KV) rfl rfl rfl KV.2.2.2.2 (by rw [C.rr]; exact hR)) ⟨v_blind, (vk_recv (i := 0) C.EX.1.2.2.1 (by decide) hS), (fun U hU hW => ⟨hav ▸ rfl, v_WW.to hP C.K C.DD C.EX hS hU hW⟩)⟩ rfl hn h.1 hst (lv_room hrest) hd ⟨C.k1, C.k2⟩
  exact va_calli hr hS (fun q _ hq => C.sub q hq) C.sub (fun r S1 t H1 locs1 ht _ hp hB _ _ hS1 => by obtain ⟨b, rfl, hp⟩ := hp; exact kk b S1 hp H1 locs1 ls (by have h1 := hB.1; rwa [ht] at h1) hS1 h)
end VK
theorem dJ3_checkIndex_8e157_0 : decode cJ3_checkIndex_8e157 0 = .ok ((.iload_n 0), 1) := by decide +kernel
theorem dJ3_checkIndex_8e157_1 : decode cJ3_checkIndex_8e157 1 = .ok ((.ifCond .lt 8), 3) := by decide +kernel
theorem dJ3_checkIndex_8e157_4 : decode cJ3_checkIndex_8e157 4 = .ok ((.iload_n 0), 1) := by decide +kernel
theorem dJ3_checkIndex_8e157_5 : decode cJ3_checkIndex_8e157 5 = .ok ((.iload_n 1), 1) := by decide +kernel
theorem dJ3_checkIndex_8e157_6 : decode cJ3_checkIndex_8e157 6 = .ok ((.if_icmp .lt 10), 3) := by decide +kernel
theorem dJ3_checkIndex_8e157_9 : decode cJ3_checkIndex_8e157 9 = .ok ((.aload_n 2), 1) := by decide +kernel
theorem dJ3_checkIndex_8e157_10 : decode cJ3_checkIndex_8e157 10 = .ok ((.iload_n 0), 1) := by decide +kernel
theorem dJ3_checkIndex_8e157_11 : decode cJ3_checkIndex_8e157 11 = .ok ((.iload_n 1), 1) := by decide +kernel
theorem dJ3_checkIndex_8e157_12 : decode cJ3_checkIndex_8e157 12 = .ok ((.invokestatic 95), 3) := by decide +kernel
theorem dJ3_checkIndex_8e157_15 : decode cJ3_checkIndex_8e157 15 = .ok (.athrow, 1) := by decide +kernel
theorem dJ3_checkIndex_8e157_16 : decode cJ3_checkIndex_8e157 16 = .ok ((.iload_n 0), 1) := by decide +kernel
theorem dJ3_checkIndex_8e157_17 : decode cJ3_checkIndex_8e157 17 = .ok (.ireturn, 1) := by decide +kernel
theorem dJ0_checkIndex_df160_0 : decode cJ0_checkIndex_df160 0 = .ok ((.iload_n 0), 1) := by decide +kernel
theorem dJ0_checkIndex_df160_1 : decode cJ0_checkIndex_df160 1 = .ok ((.iload_n 1), 1) := by decide +kernel
theorem dJ0_checkIndex_df160_2 : decode cJ0_checkIndex_df160 2 = .ok ((.getstatic 1053), 3) := by decide +kernel
theorem dJ0_checkIndex_df160_5 : decode cJ0_checkIndex_df160 5 = .ok ((.invokestatic 1059), 3) := by decide +kernel
theorem dJ0_checkIndex_df160_8 : decode cJ0_checkIndex_df160 8 = .ok (.pop, 1) := by decide +kernel
theorem dJ0_checkIndex_df160_9 : decode cJ0_checkIndex_df160 9 = .ok (.return_, 1) := by decide +kernel
theorem dJ1_charAt_3b067_0 : decode cJ1_charAt_3b067 0 = .ok ((.iload_n 1), 1) := by decide +kernel
theorem dJ1_charAt_3b067_1 : decode cJ1_charAt_3b067 1 = .ok ((.aload_n 0), 1) := by decide +kernel
theorem dJ1_charAt_3b067_2 : decode cJ1_charAt_3b067 2 = .ok (.arraylength, 1) := by decide +kernel
theorem dJ1_charAt_3b067_3 : decode cJ1_charAt_3b067 3 = .ok ((.invokestatic 9), 3) := by decide +kernel
theorem dJ1_charAt_3b067_6 : decode cJ1_charAt_3b067 6 = .ok ((.aload_n 0), 1) := by decide +kernel
theorem dJ1_charAt_3b067_7 : decode cJ1_charAt_3b067 7 = .ok ((.iload_n 1), 1) := by decide +kernel
theorem dJ1_charAt_3b067_8 : decode cJ1_charAt_3b067 8 = .ok (.baload, 1) := by decide +kernel
theorem dJ1_charAt_3b067_9 : decode cJ1_charAt_3b067 9 = .ok ((.sipush 255), 3) := by decide +kernel
theorem dJ1_charAt_3b067_12 : decode cJ1_charAt_3b067 12 = .ok (.iand, 1) := by decide +kernel
theorem dJ1_charAt_3b067_13 : decode cJ1_charAt_3b067 13 = .ok (.i2c, 1) := by decide +kernel
theorem dJ1_charAt_3b067_14 : decode cJ1_charAt_3b067 14 = .ok (.ireturn, 1) := by decide +kernel
theorem dJ0_coder_7d493_0 : decode cJ0_coder_7d493 0 = .ok ((.getstatic 38), 3) := by decide +kernel
theorem dJ0_coder_7d493_3 : decode cJ0_coder_7d493 3 = .ok ((.ifCond .eq 10), 3) := by decide +kernel
theorem dJ0_coder_7d493_6 : decode cJ0_coder_7d493 6 = .ok ((.aload_n 0), 1) := by decide +kernel
theorem dJ0_coder_7d493_7 : decode cJ0_coder_7d493 7 = .ok ((.getfield 15), 3) := by decide +kernel
theorem dJ0_coder_7d493_10 : decode cJ0_coder_7d493 10 = .ok ((.goto 4), 3) := by decide +kernel
theorem dJ0_coder_7d493_13 : decode cJ0_coder_7d493 13 = .ok ((.iconst 1), 1) := by decide +kernel
theorem dJ0_coder_7d493_14 : decode cJ0_coder_7d493 14 = .ok (.ireturn, 1) := by decide +kernel
theorem dJ0_isLatin1_aae02_0 : decode cJ0_isLatin1_aae02 0 = .ok ((.getstatic 38), 3) := by decide +kernel
theorem dJ0_isLatin1_aae02_3 : decode cJ0_isLatin1_aae02 3 = .ok ((.ifCond .eq 14), 3) := by decide +kernel
theorem dJ0_isLatin1_aae02_6 : decode cJ0_isLatin1_aae02 6 = .ok ((.aload_n 0), 1) := by decide +kernel
theorem dJ0_isLatin1_aae02_7 : decode cJ0_isLatin1_aae02 7 = .ok ((.getfield 15), 3) := by decide +kernel
theorem dJ0_isLatin1_aae02_10 : decode cJ0_isLatin1_aae02 10 = .ok ((.ifCond .ne 7), 3) := by decide +kernel
theorem dJ0_isLatin1_aae02_13 : decode cJ0_isLatin1_aae02 13 = .ok ((.iconst 1), 1) := by decide +kernel
theorem dJ0_isLatin1_aae02_14 : decode cJ0_isLatin1_aae02 14 = .ok ((.goto 4), 3) := by decide +kernel
theorem dJ0_isLatin1_aae02_17 : decode cJ0_isLatin1_aae02 17 = .ok ((.iconst 0), 1) := by decide +kernel
theorem dJ0_isLatin1_aae02_18 : decode cJ0_isLatin1_aae02 18 = .ok (.ireturn, 1) := by decide +kernel
theorem dJ0_charAt_5068e_0 : decode cJ0_charAt_5068e 0 = .ok ((.aload_n 0), 1) := by decide +kernel
theorem dJ0_charAt_5068e_1 : decode cJ0_charAt_5068e 1 = .ok ((.invokevirtual 492), 3) := by decide +kernel
theorem dJ0_charAt_5068e_4 : decode cJ0_charAt_5068e 4 = .ok ((.ifCond .eq 12), 3) := by decide +kernel
theorem dJ0_charAt_5068e_7 : decode cJ0_charAt_5068e 7 = .ok ((.aload_n 0), 1) := by decide +kernel
theorem dJ0_charAt_5068e_8 : decode cJ0_charAt_5068e 8 = .ok ((.getfield 9), 3) := by decide +kernel
theorem dJ0_charAt_5068e_11 : decode cJ0_charAt_5068e 11 = .ok ((.iload_n 1), 1) := by decide +kernel
theorem dJ0_charAt_5068e_12 : decode cJ0_charAt_5068e 12 = .ok ((.invokestatic 495), 3) := by decide +kernel
theorem dJ0_charAt_5068e_15 : decode cJ0_charAt_5068e 15 = .ok (.ireturn, 1) := by decide +kernel
theorem dJ0_charAt_5068e_16 : decode cJ0_charAt_5068e 16 = .ok ((.aload_n 0), 1) := by decide +kernel
theorem dJ0_charAt_5068e_17 : decode cJ0_charAt_5068e 17 = .ok ((.getfield 9), 3) := by decide +kernel
theorem dJ0_charAt_5068e_20 : decode cJ0_charAt_5068e 20 = .ok ((.iload_n 1), 1) := by decide +kernel
theorem dJ0_charAt_5068e_21 : decode cJ0_charAt_5068e 21 = .ok ((.invokestatic 498), 3) := by decide +kernel
theorem dJ0_charAt_5068e_24 : decode cJ0_charAt_5068e 24 = .ok (.ireturn, 1) := by decide +kernel
theorem dJ0_length_8abf5_0 : decode cJ0_length_8abf5 0 = .ok ((.aload_n 0), 1) := by decide +kernel
theorem dJ0_length_8abf5_1 : decode cJ0_length_8abf5 1 = .ok ((.getfield 9), 3) := by decide +kernel
theorem dJ0_length_8abf5_4 : decode cJ0_length_8abf5 4 = .ok (.arraylength, 1) := by decide +kernel
theorem dJ0_length_8abf5_5 : decode cJ0_length_8abf5 5 = .ok ((.aload_n 0), 1) := by decide +kernel
theorem dJ0_length_8abf5_6 : decode cJ0_length_8abf5 6 = .ok ((.invokevirtual 335), 3) := by decide +kernel
theorem dJ0_length_8abf5_9 : decode cJ0_length_8abf5 9 = .ok (.ishr, 1) := by decide +kernel
theorem dJ0_length_8abf5_10 : decode cJ0_length_8abf5 10 = .ok (.ireturn, 1) := by decide +kernel
theorem KV_J3_checkIndex_8e157 : v_KS yJ3_checkIndex_8e157 cJ3_checkIndex_8e157 3 (some .int) 3 := ⟨v_r9 _ (List.mem_of_getElem? (i := 23) rfl), v_r10 _ (List.mem_of_getElem? (i := 0) rfl), v_r10 _ (List.mem_of_getElem? (i := 1) rfl), by decide +kernel⟩
theorem KV_J0_checkIndex_df160 : v_KS yJ0_checkIndex_df160 cJ0_checkIndex_df160 2 none 2 := ⟨v_r9 _ (List.mem_of_getElem? (i := 19) rfl), v_r8 _ (List.mem_of_getElem? (i := 21) rfl), v_r9 _ (List.mem_of_getElem? (i := 20) rfl), by decide +kernel⟩
theorem KV_J1_charAt_3b067 : v_KS yJ1_charAt_3b067 cJ1_charAt_3b067 2 (some .char) 2 := ⟨v_r9 _ (List.mem_of_getElem? (i := 15) rfl), v_r9 _ (List.mem_of_getElem? (i := 16) rfl), v_r9 _ (List.mem_of_getElem? (i := 17) rfl), by decide +kernel⟩
theorem KV_J0_coder_7d493 : v_KV "java/lang/String" yJ0_coder_7d493 cJ0_coder_7d493 1 (some .byte) 0 := ⟨v_r9 _ (List.mem_of_getElem? (i := 1) rfl), v_r9 _ (List.mem_of_getElem? (i := 2) rfl), v_r8 _ (List.mem_of_getElem? (i := 21) rfl), v_r9 _ (List.mem_of_getElem? (i := 3) rfl), by decide +kernel⟩
theorem KV_J0_isLatin1_aae02 : v_KV "java/lang/String" yJ0_isLatin1_aae02 cJ0_isLatin1_aae02 1 (some .boolean) 0 := ⟨v_r9 _ (List.mem_of_getElem? (i := 11) rfl), v_r9 _ (List.mem_of_getElem? (i := 12) rfl), v_r8 _ (List.mem_of_getElem? (i := 21) rfl), v_r9 _ (List.mem_of_getElem? (i := 13) rfl), by decide +kernel⟩
theorem KV_J0_charAt_5068e : v_KV "java/lang/String" yJ0_charAt_5068e cJ0_charAt_5068e 2 (some .char) 1 := ⟨v_r9 _ (List.mem_of_getElem? (i := 7) rfl), v_r9 _ (List.mem_of_getElem? (i := 8) rfl), v_r8 _ (List.mem_of_getElem? (i := 21) rfl), v_r9 _ (List.mem_of_getElem? (i := 9) rfl), by decide +kernel⟩
theorem KV_J0_length_8abf5 : v_KV "java/lang/String" yJ0_length_8abf5 cJ0_length_8abf5 1 (some .int) 0 := ⟨v_r8 _ (List.mem_of_getElem? (i := 19) rfl), v_r8 _ (List.mem_of_getElem? (i := 20) rfl), v_r8 _ (List.mem_of_getElem? (i := 21) rfl), v_r8 _ (List.mem_of_getElem? (i := 22) rfl), by decide +kernel⟩
theorem k_RJ0_9 : Cond.fieldLink RJ0 9 "java/lang/String" "value" "[B" ∈ wsL_law := v_r8 _ (List.mem_of_getElem? (i := 23) rfl)
theorem k_RJ0_38 : Cond.fieldLink RJ0 38 "java/lang/String" "COMPACT_STRINGS" "Z" ∈ wsL_law := v_r9 _ (List.mem_of_getElem? (i := 4) rfl)
theorem k_RJ0_15 : Cond.fieldLink RJ0 15 "java/lang/String" "coder" "B" ∈ wsL_law := v_r9 _ (List.mem_of_getElem? (i := 5) rfl)
theorem k_RJ0_1053 : Cond.fieldLink RJ0 1053 "jdk/internal/util/Preconditions" "SIOOBE_FORMATTER" "Ljava/util/function/BiFunction;" ∈ wsL_law := v_r9 _ (List.mem_of_getElem? (i := 21) rfl)
theorem k_RJ0_335 : Cond.methodLink RJ0 335 yJ0_coder_7d493 ∈ wsL_law := v_r9 _ (List.mem_of_getElem? (i := 0) rfl)
theorem k_RJ0_492 : Cond.methodLink RJ0 492 yJ0_isLatin1_aae02 ∈ wsL_law := v_r9 _ (List.mem_of_getElem? (i := 10) rfl)
theorem k_RJ0_495 : Cond.methodLink RJ0 495 yJ1_charAt_3b067 ∈ wsL_law := v_r9 _ (List.mem_of_getElem? (i := 14) rfl)
theorem k_RJ1_9 : Cond.methodLink RJ1 9 yJ0_checkIndex_df160 ∈ wsL_law := v_r9 _ (List.mem_of_getElem? (i := 18) rfl)
theorem k_RJ0_1059 : Cond.methodLink RJ0 1059 yJ3_checkIndex_8e157 ∈ wsL_law := v_r9 _ (List.mem_of_getElem? (i := 22) rfl)
theorem k_RX6_82 : Cond.methodLink RX6 82 yJ0_length_8abf5 ∈ wsL_law := v_r13 _ (List.mem_of_getElem? (i := 17) rfl)
theorem k_RX6_87 : Cond.methodLink RX6 87 yJ0_charAt_5068e ∈ wsL_law := v_r13 _ (List.mem_of_getElem? (i := 18) rfl)
set_option maxHeartbeats 4000000 in
set_option maxRecDepth 100000 in
theorem c_checkIndexP (l : Launch) (G : vG) {S : vSt} {x n : Int32} {v : Value} (hv : v.category = 1) (h0 : ¬ x < 0) (h1 : x < n) (post : Int32 → vSt → Prop) (h : post x S) : Met l yJ3_checkIndex_8e157 (v_ws yJ3_checkIndex_8e157 cJ3_checkIndex_8e157 3 (some .int)) (v_rm 0 40) (v_Pc G [.int x, .int n, v] S) (v_Qi G post) 0 0 (v_A G) := by
  refine v_start (by decide +kernel) (by simp [lg_sl, hv, show (Value.int x).category = 1 from rfl, show (Value.int n).category = 1 from rfl]) (fun X hl C D => ?_)
  subst hl
  have C : v_Cx X G cJ3_checkIndex_8e157 RJ3 3 (v_rm 0 40) := C
  show VJ X G S 0 [(0, .int x), (1, .int n), (2, v)] []
  refine V_iload_n C 0 dJ3_checkIndex_8e157_0 rfl rfl ?_
  refine V_if_lt (tgt := 9) C dJ3_checkIndex_8e157_1 (by decide) (fun c => absurd c h0) (fun _ => ?_)
  refine V_iload_n C 0 dJ3_checkIndex_8e157_4 rfl rfl ?_
  refine V_iload_n C 1 dJ3_checkIndex_8e157_5 rfl rfl ?_
  refine V_icmp_lt (tgt := 16) C dJ3_checkIndex_8e157_6 (by decide) (fun _ => ?_) (fun c => absurd h1 c)
  refine V_iload_n C 0 dJ3_checkIndex_8e157_16 rfl rfl ?_
  exact V_iret C D dJ3_checkIndex_8e157_17 h
set_option maxHeartbeats 4000000 in
set_option maxRecDepth 100000 in
theorem c_checkIndexS (l : Launch) (G : vG) {S : vSt} {x n : Int32} (h0 : ¬ x < 0) (h1 : x < n) (post : vSt → Prop) (h : post S) : Met l yJ0_checkIndex_df160 (v_ws yJ0_checkIndex_df160 cJ0_checkIndex_df160 2 none) (v_rm 1 80) (v_Pc G [.int x, .int n] S) (v_Qv G post) 0 0 (v_A G) := by
  refine v_start (by decide +kernel) (Nat.le_of_ble_eq_true rfl) (fun X hl C D => ?_)
  subst hl
  have C : v_Cx X G cJ0_checkIndex_df160 RJ0 2 (v_rm 1 80) := C
  show VJ X G S 0 [(0, .int x), (1, .int n)] []
  refine V_iload_n C 0 dJ0_checkIndex_df160_0 rfl rfl ?_
  refine V_iload_n C 1 dJ0_checkIndex_df160_1 rfl rfl ?_
  refine V_getq C k_RJ0_1053 dJ0_checkIndex_df160_2 (fun v hv => ?_)
  refine V_callSi (As := [.int x, .int n, v]) (rest := []) C (c_checkIndexP (v_l X) G hv h0 h1 (fun _ S1 => post S1) h) KV_J3_checkIndex_8e157 k_RJ0_1059 rfl rfl rfl (Nat.le_of_ble_eq_true rfl) ⟨Nat.le_of_ble_eq_true rfl, Nat.le_of_ble_eq_true rfl⟩ dJ0_checkIndex_df160_5 (fun r S1 h => ?_)
  refine V_pop C dJ0_checkIndex_df160_8 rfl ?_
  exact V_vret C D dJ0_checkIndex_df160_9 h
theorem v_kw_c : ∀ k, k < 120 → ((v_kw.getD k 0 &&& 255).toUInt32 % 65536).toInt32 = v_kw.getD k 0 := by decide +kernel
theorem v_kw_n : ∀ k, k < 120 → narrow .char (.int (v_kw.getD k 0)) = .int (v_kw.getD k 0) := by decide +kernel
set_option maxHeartbeats 4000000 in
set_option maxRecDepth 100000 in
theorem c_charAtL (l : Launch) (G : vG) {S : vSt} {x : Int32} (hx : vp_in x 120) (post : Int32 → vSt → Prop) (h : post (v_kw.getD x.toNatClampNeg 0) S) : Met l yJ1_charAt_3b067 (v_ws yJ1_charAt_3b067 cJ1_charAt_3b067 2 (some .char)) (v_rm 2 120) (v_Pc G [.ref (G.1 149), .int x] S) (v_Qi G post) 0 0 (v_A G) := by
  refine v_start (by decide +kernel) (Nat.le_of_ble_eq_true rfl) (fun X hl C D => ?_)
  subst hl
  have C : v_Cx X G cJ1_charAt_3b067 RJ1 2 (v_rm 2 120) := C
  show VJ X G S 0 [(0, .ref (G.1 149)), (1, .int x)] []
  have hlt : x.toNatClampNeg < 120 := Nat.not_le.mp fun q => hx (Or.inr q)
  have h0 : ¬ x < 0 := fun q => hx (Or.inl q)
  have h1 : x < 120 := by have := v_nn x h0; rw [Int32.lt_iff_toInt_lt, this]; show (x.toNatClampNeg : Int) < 120; omega
  refine V_iload_n C 1 dJ1_charAt_3b067_0 rfl rfl ?_
  refine V_aload_n C 0 dJ1_charAt_3b067_1 rfl rfl ?_
  refine V_klen C dJ1_charAt_3b067_2 ?_
  refine V_callSv (As := [.int x, .int 120]) (rest := []) C (c_checkIndexS (v_l X) G h0 h1 (fun S1 => post (v_kw.getD x.toNatClampNeg 0) S1) h) KV_J0_checkIndex_df160 k_RJ1_9 rfl rfl rfl (Nat.le_of_ble_eq_true rfl) ⟨Nat.le_of_ble_eq_true rfl, Nat.le_of_ble_eq_true rfl⟩ dJ1_charAt_3b067_3 (fun S1 h => ?_)
  refine V_aload_n C 0 dJ1_charAt_3b067_6 rfl rfl ?_
  refine V_iload_n C 1 dJ1_charAt_3b067_7 rfl rfl ?_
  refine V_kald C hx dJ1_charAt_3b067_8 ?_
  refine V_sipush (v := 255) C dJ1_charAt_3b067_9 (by decide) ?_
  refine V_iand C dJ1_charAt_3b067_12 ?_
  refine V_i2c C dJ1_charAt_3b067_13 ?_
  rw [v_kw_c _ hlt]
  exact V_nret C D (v_kw_n _ hlt) dJ1_charAt_3b067_14 h
set_option maxHeartbeats 4000000 in
set_option maxRecDepth 100000 in
theorem c_coder (l : Launch) (G : vG) {S : vSt} (post : Int32 → vSt → Prop) (h : post 0 S) : Met l yJ0_coder_7d493 (v_ws yJ0_coder_7d493 cJ0_coder_7d493 1 (some .byte)) (v_rm 0 40) (v_Pc G [.ref (G.1 148)] S) (v_Qi G post) 0 0 (v_A G) := by
  refine v_start (by decide +kernel) (Nat.le_of_ble_eq_true rfl) (fun X hl C D => ?_)
  subst hl
  have C : v_Cx X G cJ0_coder_7d493 RJ0 1 (v_rm 0 40) := C
  show VJ X G S 0 [(0, .ref (G.1 148))] []
  refine V_getc C k_RJ0_38 dJ0_coder_7d493_0 ?_
  refine V_if_eq (tgt := 13) C dJ0_coder_7d493_3 (by decide) (fun c => absurd c (by decide)) (fun _ => ?_)
  refine V_aload_n C 0 dJ0_coder_7d493_6 rfl rfl ?_
  refine V_kcod C k_RJ0_15 dJ0_coder_7d493_7 ?_
  refine V_goto (tgt := 14) C dJ0_coder_7d493_10 (by decide) ?_
  exact V_nret C D (by decide +kernel) dJ0_coder_7d493_14 h
set_option maxHeartbeats 4000000 in
set_option maxRecDepth 100000 in
theorem c_isLatin1 (l : Launch) (G : vG) {S : vSt} (post : Bool → vSt → Prop) (h : post true S) : Met l yJ0_isLatin1_aae02 (v_ws yJ0_isLatin1_aae02 cJ0_isLatin1_aae02 1 (some .boolean)) (v_rm 0 40) (v_Pc G [.ref (G.1 148)] S) (v_Qz G post) 0 0 (v_A G) := by
  refine v_start (by decide +kernel) (Nat.le_of_ble_eq_true rfl) (fun X hl C D => ?_)
  subst hl
  have C : v_Cx X G cJ0_isLatin1_aae02 RJ0 1 (v_rm 0 40) := C
  show VJ X G S 0 [(0, .ref (G.1 148))] []
  refine V_getc C k_RJ0_38 dJ0_isLatin1_aae02_0 ?_
  refine V_if_eq (tgt := 17) C dJ0_isLatin1_aae02_3 (by decide) (fun c => absurd c (by decide)) (fun _ => ?_)
  refine V_aload_n C 0 dJ0_isLatin1_aae02_6 rfl rfl ?_
  refine V_kcod C k_RJ0_15 dJ0_isLatin1_aae02_7 ?_
  refine V_if_ne (tgt := 17) C dJ0_isLatin1_aae02_10 (by decide) (fun c => absurd rfl c) (fun _ => ?_)
  refine V_iconst (v := 1) C dJ0_isLatin1_aae02_13 (by decide) ?_
  refine V_goto (tgt := 18) C dJ0_isLatin1_aae02_14 (by decide) ?_
  exact V_zret1 C D dJ0_isLatin1_aae02_18 h
set_option maxHeartbeats 4000000 in
set_option maxRecDepth 100000 in
theorem c_charAt (l : Launch) (G : vG) {S : vSt} {x : Int32} (hx : vp_in x 120) (post : Int32 → vSt → Prop) (h : post (v_kw.getD x.toNatClampNeg 0) S) : Met l yJ0_charAt_5068e (v_ws yJ0_charAt_5068e cJ0_charAt_5068e 2 (some .char)) (v_rm 3 160) (v_Pc G [.ref (G.1 148), .int x] S) (v_Qi G post) 0 0 (v_A G) := by
  refine v_start (by decide +kernel) (Nat.le_of_ble_eq_true rfl) (fun X hl C D => ?_)
  subst hl
  have C : v_Cx X G cJ0_charAt_5068e RJ0 2 (v_rm 3 160) := C
  show VJ X G S 0 [(0, .ref (G.1 148)), (1, .int x)] []
  have hlt : x.toNatClampNeg < 120 := Nat.not_le.mp fun q => hx (Or.inr q)
  refine V_aload_n C 0 dJ0_charAt_5068e_0 rfl rfl ?_
  refine V_callKz (As := []) (rest := []) C (c_isLatin1 (v_l X) G (fun b S1 => b = true ∧ post (v_kw.getD x.toNatClampNeg 0) S1) ⟨rfl, h⟩) KV_J0_isLatin1_aae02 k_RJ0_492 rfl rfl rfl (Nat.le_of_ble_eq_true rfl) ⟨Nat.le_of_ble_eq_true rfl, Nat.le_of_ble_eq_true rfl⟩ dJ0_charAt_5068e_1 (fun b S1 h => ?_)
  obtain ⟨rfl, h⟩ := h
  refine V_ifb_eq (tgt := 16) C dJ0_charAt_5068e_4 (by decide) (fun c => absurd c (by decide)) (fun _ => ?_)
  refine V_aload_n C 0 dJ0_charAt_5068e_7 rfl rfl ?_
  refine V_kval C k_RJ0_9 dJ0_charAt_5068e_8 ?_
  refine V_iload_n C 1 dJ0_charAt_5068e_11 rfl rfl ?_
  refine V_callSi (As := [.ref (G.1 149), .int x]) (rest := []) C (c_charAtL (v_l X) G hx (fun r S1 => r = v_kw.getD x.toNatClampNeg 0 ∧ post r S1) ⟨rfl, h⟩) KV_J1_charAt_3b067 k_RJ0_495 rfl rfl rfl (Nat.le_of_ble_eq_true rfl) ⟨Nat.le_of_ble_eq_true rfl, Nat.le_of_ble_eq_true rfl⟩ dJ0_charAt_5068e_12 (fun r S1 h => ?_)
  obtain ⟨e, h⟩ := h
  exact V_nret C D (by rw [e]; exact v_kw_n _ hlt) dJ0_charAt_5068e_15 h
set_option maxHeartbeats 4000000 in
set_option maxRecDepth 100000 in
theorem c_strlen (l : Launch) (G : vG) {S : vSt} (post : Int32 → vSt → Prop) (h : post 120 S) : Met l yJ0_length_8abf5 (v_ws yJ0_length_8abf5 cJ0_length_8abf5 1 (some .int)) (v_rm 1 80) (v_Pc G [.ref (G.1 148)] S) (v_Qi G post) 0 0 (v_A G) := by
  refine v_start (by decide +kernel) (Nat.le_of_ble_eq_true rfl) (fun X hl C D => ?_)
  subst hl
  have C : v_Cx X G cJ0_length_8abf5 RJ0 1 (v_rm 1 80) := C
  show VJ X G S 0 [(0, .ref (G.1 148))] []
  refine V_aload_n C 0 dJ0_length_8abf5_0 rfl rfl ?_
  refine V_kval C k_RJ0_9 dJ0_length_8abf5_1 ?_
  refine V_klen C dJ0_length_8abf5_4 ?_
  refine V_aload_n C 0 dJ0_length_8abf5_5 rfl rfl ?_
  refine V_callKi (As := []) (rest := [.int 120]) C (c_coder (v_l X) G (fun r S1 => r = 0 ∧ post 120 S1) ⟨rfl, h⟩) KV_J0_coder_7d493 k_RJ0_335 rfl rfl rfl (Nat.le_of_ble_eq_true rfl) ⟨Nat.le_of_ble_eq_true rfl, Nat.le_of_ble_eq_true rfl⟩ dJ0_length_8abf5_6 (fun r S1 h => ?_)
  obtain ⟨rfl, h⟩ := h
  refine V_ishr C dJ0_length_8abf5_9 ?_
  have e : (120 : Int32) >>> ((0 : Int32) &&& 31) = 120 := by decide
  rw [e]
  exact V_iret C D dJ0_length_8abf5_10 h
section VQ
variable {X : vX} {G : vG} {cc : ByteArray} {own : String} {nL : Nat} {R : Room} {S : vSt} {pc : Nat} {lv lv' : List (Nat × Value)} {st : List Value}
theorem V_qval (C : v_Cx X G cc own nL R) {q : Nat} (hq : q < 13) {i : Nat} (hw : Cond.fieldLink own i "java/lang/String" "value" "[B" ∈ wsL_law) (hd : decode cc pc = .ok (.getfield i, 3)) (kk : VJ X G S (pc + 3) lv (.ref (G.1 (145 + (4 + 2 * q))) :: st)) : VJ X G S pc lv (.ref (G.1 (145 + (3 + 2 * q))) :: st) := fun H locs ls hP hS h => vk_getf C.x C.b (C.EX.1.2.2.1.1 q hq).2.2.1 hS C.ow (C.ts _ hw) (fun _ z => z) hd (kk H locs ls hP hS h)
theorem V_qcod (C : v_Cx X G cc own nL R) {q : Nat} (hq : q < 13) {i : Nat} (hw : Cond.fieldLink own i "java/lang/String" "coder" "B" ∈ wsL_law) (hd : decode cc pc = .ok (.getfield i, 3)) (kk : VJ X G S (pc + 3) lv (.int 0 :: st)) : VJ X G S pc lv (.ref (G.1 (145 + (3 + 2 * q))) :: st) := fun H locs ls hP hS h => vk_getf C.x C.b (C.EX.1.2.2.1.1 q hq).2.1 hS C.ow (C.ts _ hw) (fun _ z => z) hd (kk H locs ls hP hS h)
theorem V_qlen (C : v_Cx X G cc own nL R) {q : Nat} (hq : q < 13) (hd : decode cc pc = .ok (.arraylength, 1)) (kk : VJ X G S (pc + 1) lv (.int (Int32.ofNat (v_slen.getD q 0)) :: st)) : VJ X G S pc lv (.ref (G.1 (145 + (4 + 2 * q))) :: st) := fun H locs ls hP hS h => va_tlen C.x C.b (C.EX.1.2.2.1.1 q hq).2.2.2 hS rfl hd (kk H locs ls hP hS h)
theorem V_qald (C : v_Cx X G cc own nL R) {q : Nat} (hq : q < 13) {x : Int32} (hi : vp_in x (v_slen.getD q 0)) (hd : decode cc pc = .ok (.baload, 1)) (kk : VJ X G S (pc + 1) lv (.int ((v_sbyt.getD q []).getD x.toNatClampNeg 0) :: st)) : VJ X G S pc lv (.int x :: .ref (G.1 (145 + (4 + 2 * q))) :: st) := fun H locs ls hP hS h => va_tb C.x C.b (C.EX.1.2.2.1.1 q hq).2.2.2 hS hi rfl hd (kk H locs ls hP hS h)
theorem V_callQi (C : v_Cx X G cc own nL R) {q : Nat} (hq : q < 13) {y : MethodName} {bytes : ByteArray} {maxL fr lo i n : Nat} {ret : Option FieldType} {av : List Value} {post : Int32 → vSt → Prop} (hM : Met (v_l X) y (v_ws y bytes maxL ret) (v_rm fr lo) (v_Pc G av S) (v_Qi G post) 0 0 (v_A G)) {As rest : List Value} (KV : v_KV "java/lang/String" y bytes maxL ret n) (hw : Cond.methodLink own i y ∈ wsL_law) (hav : av = .ref (G.1 (145 + (3 + 2 * q))) :: As) (hst : st = As.reverse ++ .ref (G.1 (145 + (3 + 2 * q))) :: rest) (hn : As.length = n) (hrest : (rest.map fun v => v.category).sum ≤ 8) (hR : (v_rm fr lo).frames + 1 ≤ R.frames ∧ 8 + (maxL + 11) + (v_rm fr lo).locals ≤ R.locals) (hd : decode cc pc = .ok (.invokevirtual i, 3)) (kk : ∀ (r : Int32) S1, post r S1 → VJ X G S1 (pc + 3) lv (.int r :: rest)) : VJ X G S pc lv st := fun H locs ls hP hS h => by
  have hr : va_Run (v_p X) (v_l X) (v_e X) (v_R X) (v_s X) (v_m X) (v_args X) (v_below X) (v_meth X) (v_c X) H locs (v_k1 X) (v_k2 X) 0 0 (F0 (v_m X) pc ls st) rest (v_Qi G post (Value.ref (G.1 (145 + (3 + 2 * q))) :: As).toArray) (v_A G) := va_runV (As := As) (rest := rest) C.fix hM (cwV n C.ts (ws' := wsL_law) (v_goodV hw KV) rfl rfl rfl KV.2.2.2.2 (by rw [C.rr]; exact hR)) ⟨v_blind, (vk_recv (i := q) C.EX.1.2.2.1 hq hS), (fun U hU hW => ⟨hav ▸ rfl, v_WW.to hP C.K C.DD C.EX hS hU hW⟩)⟩ rfl hn h.1 hst (lv_room hrest) hd ⟨C.k1, C.k2⟩
  exact va_calli hr hS (fun q _ hq => C.sub q hq) C.sub (fun r S1 t H1 locs1 ht _ hp hB _ _ hS1 => kk r S1 hp H1 locs1 ls (by have h1 := hB.1; rwa [ht] at h1) hS1 h)
theorem V_callQz (C : v_Cx X G cc own nL R) {q : Nat} (hq : q < 13) {y : MethodName} {bytes : ByteArray} {maxL fr lo i n : Nat} {ret : Option FieldType} {av : List Value} {post : Bool → vSt → Prop} (hM : Met (v_l X) y (v_ws y bytes maxL ret) (v_rm fr lo) (v_Pc G av S) (v_Qz G post) 0 0 (v_A G)) {As rest : List Value} (KV : v_KV "java/lang/String" y bytes maxL ret n) (hw : Cond.methodLink own i y ∈ wsL_law) (hav : av = .ref (G.1 (145 + (3 + 2 * q))) :: As) (hst : st = As.reverse ++ .ref (G.1 (145 + (3 + 2 * q))) :: rest) (hn : As.length = n) (hrest : (rest.map fun v => v.category).sum ≤ 8) (hR : (v_rm fr lo).frames + 1 ≤ R.frames ∧ 8 + (maxL + 11) + (v_rm fr lo).locals ≤ R.locals) (hd : decode cc pc = .ok (.invokevirtual i, 3)) (kk : ∀ (b : Bool) S1, post b S1 → VJ X G S1 (pc + 3) lv (.int (v_b b) :: rest)) : VJ X G S pc lv st := fun H locs ls hP hS h => by
  have hr : va_Run (v_p X) (v_l X) (v_e X) (v_R X) (v_s X) (v_m X) (v_args X) (v_below X) (v_meth X) (v_c X) H locs (v_k1 X) (v_k2 X) 0 0 (F0 (v_m X) pc ls st) rest (v_Qz G post (Value.ref (G.1 (145 + (3 + 2 * q))) :: As).toArray) (v_A G) := va_runV (As := As) (rest := rest) C.fix hM (cwV n C.ts (ws' := wsL_law) (v_goodV hw KV) rfl rfl rfl KV.2.2.2.2 (by rw [C.rr]; exact hR)) ⟨v_blind, (vk_recv (i := q) C.EX.1.2.2.1 hq hS), (fun U hU hW => ⟨hav ▸ rfl, v_WW.to hP C.K C.DD C.EX hS hU hW⟩)⟩ rfl hn h.1 hst (lv_room hrest) hd ⟨C.k1, C.k2⟩
  exact va_calli hr hS (fun q _ hq => C.sub q hq) C.sub (fun r S1 t H1 locs1 ht _ hp hB _ _ hS1 => by obtain ⟨b, rfl, hp⟩ := hp; exact kk b S1 hp H1 locs1 ls (by have h1 := hB.1; rwa [ht] at h1) hS1 h)
end VQ
theorem v_q_i {q : Nat} (hq : q < 13) : (Int32.ofNat (v_slen.getD q 0)).toInt = ((v_slen.getD q 0 : Nat) : Int) := by
  have h : ∀ q, q < 13 → (Int32.ofNat (v_slen.getD q 0)).toInt = ((v_slen.getD q 0 : Nat) : Int) := by decide +kernel
  exact h q hq
theorem v_q_s {q : Nat} (hq : q < 13) : Int32.ofNat (v_slen.getD q 0) >>> ((0 : Int32) &&& 31) = Int32.ofNat (v_slen.getD q 0) := by
  have h : ∀ q, q < 13 → Int32.ofNat (v_slen.getD q 0) >>> ((0 : Int32) &&& 31) = Int32.ofNat (v_slen.getD q 0) := by decide +kernel
  exact h q hq
theorem v_q_c {q : Nat} (hq : q < 13) : ∀ k, k < v_slen.getD q 0 → ((((v_sbyt.getD q []).getD k 0) &&& 255).toUInt32 % 65536).toInt32 = (v_sbyt.getD q []).getD k 0 := by
  have h : ∀ q, q < 13 → ∀ k, k < v_slen.getD q 0 → ((((v_sbyt.getD q []).getD k 0) &&& 255).toUInt32 % 65536).toInt32 = (v_sbyt.getD q []).getD k 0 := by decide +kernel
  exact h q hq
theorem v_q_n {q : Nat} (hq : q < 13) : ∀ k, k < v_slen.getD q 0 → narrow .char (.int ((v_sbyt.getD q []).getD k 0)) = .int ((v_sbyt.getD q []).getD k 0) := by
  have h : ∀ q, q < 13 → ∀ k, k < v_slen.getD q 0 → narrow .char (.int ((v_sbyt.getD q []).getD k 0)) = .int ((v_sbyt.getD q []).getD k 0) := by decide +kernel
  exact h q hq
set_option maxHeartbeats 4000000 in
set_option maxRecDepth 100000 in
theorem c_qcharAtL (l : Launch) (G : vG) {S : vSt} {q : Nat} (hq : q < 13) {x : Int32} (hx : vp_in x (v_slen.getD q 0)) (post : Int32 → vSt → Prop) (h : post ((v_sbyt.getD q []).getD x.toNatClampNeg 0) S) : Met l yJ1_charAt_3b067 (v_ws yJ1_charAt_3b067 cJ1_charAt_3b067 2 (some .char)) (v_rm 2 120) (v_Pc G [.ref (G.1 (145 + (4 + 2 * q))), .int x] S) (v_Qi G post) 0 0 (v_A G) := by
  refine v_start (by decide +kernel) (Nat.le_of_ble_eq_true rfl) (fun X hl C D => ?_)
  subst hl
  have C : v_Cx X G cJ1_charAt_3b067 RJ1 2 (v_rm 2 120) := C
  show VJ X G S 0 [(0, .ref (G.1 (145 + (4 + 2 * q)))), (1, .int x)] []
  have hlt : x.toNatClampNeg < v_slen.getD q 0 := Nat.not_le.mp fun q => hx (Or.inr q)
  have h0 : ¬ x < 0 := fun q => hx (Or.inl q)
  have h1 : x < Int32.ofNat (v_slen.getD q 0) := by have := v_nn x h0; rw [Int32.lt_iff_toInt_lt, this, v_q_i hq]; omega
  refine V_iload_n C 1 dJ1_charAt_3b067_0 rfl rfl ?_
  refine V_aload_n C 0 dJ1_charAt_3b067_1 rfl rfl ?_
  refine V_qlen C hq dJ1_charAt_3b067_2 ?_
  refine V_callSv (As := [.int x, .int (Int32.ofNat (v_slen.getD q 0))]) (rest := []) C (c_checkIndexS (v_l X) G h0 h1 (fun S1 => post ((v_sbyt.getD q []).getD x.toNatClampNeg 0) S1) h) KV_J0_checkIndex_df160 k_RJ1_9 rfl rfl rfl (Nat.le_of_ble_eq_true rfl) ⟨Nat.le_of_ble_eq_true rfl, Nat.le_of_ble_eq_true rfl⟩ dJ1_charAt_3b067_3 (fun S1 h => ?_)
  refine V_aload_n C 0 dJ1_charAt_3b067_6 rfl rfl ?_
  refine V_iload_n C 1 dJ1_charAt_3b067_7 rfl rfl ?_
  refine V_qald C hq hx dJ1_charAt_3b067_8 ?_
  refine V_sipush (v := 255) C dJ1_charAt_3b067_9 (by decide) ?_
  refine V_iand C dJ1_charAt_3b067_12 ?_
  refine V_i2c C dJ1_charAt_3b067_13 ?_
  rw [v_q_c hq _ hlt]
  exact V_nret C D (v_q_n hq _ hlt) dJ1_charAt_3b067_14 h
set_option maxHeartbeats 4000000 in
set_option maxRecDepth 100000 in
theorem c_qcoder (l : Launch) (G : vG) {S : vSt} {q : Nat} (hq : q < 13) (post : Int32 → vSt → Prop) (h : post 0 S) : Met l yJ0_coder_7d493 (v_ws yJ0_coder_7d493 cJ0_coder_7d493 1 (some .byte)) (v_rm 0 40) (v_Pc G [.ref (G.1 (145 + (3 + 2 * q)))] S) (v_Qi G post) 0 0 (v_A G) := by
  refine v_start (by decide +kernel) (Nat.le_of_ble_eq_true rfl) (fun X hl C D => ?_)
  subst hl
  have C : v_Cx X G cJ0_coder_7d493 RJ0 1 (v_rm 0 40) := C
  show VJ X G S 0 [(0, .ref (G.1 (145 + (3 + 2 * q))))] []
  refine V_getc C k_RJ0_38 dJ0_coder_7d493_0 ?_
  refine V_if_eq (tgt := 13) C dJ0_coder_7d493_3 (by decide) (fun c => absurd c (by decide)) (fun _ => ?_)
  refine V_aload_n C 0 dJ0_coder_7d493_6 rfl rfl ?_
  refine V_qcod C hq k_RJ0_15 dJ0_coder_7d493_7 ?_
  refine V_goto (tgt := 14) C dJ0_coder_7d493_10 (by decide) ?_
  exact V_nret C D (by decide +kernel) dJ0_coder_7d493_14 h
set_option maxHeartbeats 4000000 in
set_option maxRecDepth 100000 in
theorem c_qisLatin1 (l : Launch) (G : vG) {S : vSt} {q : Nat} (hq : q < 13) (post : Bool → vSt → Prop) (h : post true S) : Met l yJ0_isLatin1_aae02 (v_ws yJ0_isLatin1_aae02 cJ0_isLatin1_aae02 1 (some .boolean)) (v_rm 0 40) (v_Pc G [.ref (G.1 (145 + (3 + 2 * q)))] S) (v_Qz G post) 0 0 (v_A G) := by
  refine v_start (by decide +kernel) (Nat.le_of_ble_eq_true rfl) (fun X hl C D => ?_)
  subst hl
  have C : v_Cx X G cJ0_isLatin1_aae02 RJ0 1 (v_rm 0 40) := C
  show VJ X G S 0 [(0, .ref (G.1 (145 + (3 + 2 * q))))] []
  refine V_getc C k_RJ0_38 dJ0_isLatin1_aae02_0 ?_
  refine V_if_eq (tgt := 17) C dJ0_isLatin1_aae02_3 (by decide) (fun c => absurd c (by decide)) (fun _ => ?_)
  refine V_aload_n C 0 dJ0_isLatin1_aae02_6 rfl rfl ?_
  refine V_qcod C hq k_RJ0_15 dJ0_isLatin1_aae02_7 ?_
  refine V_if_ne (tgt := 17) C dJ0_isLatin1_aae02_10 (by decide) (fun c => absurd rfl c) (fun _ => ?_)
  refine V_iconst (v := 1) C dJ0_isLatin1_aae02_13 (by decide) ?_
  refine V_goto (tgt := 18) C dJ0_isLatin1_aae02_14 (by decide) ?_
  exact V_zret1 C D dJ0_isLatin1_aae02_18 h
set_option maxHeartbeats 4000000 in
set_option maxRecDepth 100000 in
theorem c_qcharAt (l : Launch) (G : vG) {S : vSt} {q : Nat} (hq : q < 13) {x : Int32} (hx : vp_in x (v_slen.getD q 0)) (post : Int32 → vSt → Prop) (h : post ((v_sbyt.getD q []).getD x.toNatClampNeg 0) S) : Met l yJ0_charAt_5068e (v_ws yJ0_charAt_5068e cJ0_charAt_5068e 2 (some .char)) (v_rm 3 160) (v_Pc G [.ref (G.1 (145 + (3 + 2 * q))), .int x] S) (v_Qi G post) 0 0 (v_A G) := by
  refine v_start (by decide +kernel) (Nat.le_of_ble_eq_true rfl) (fun X hl C D => ?_)
  subst hl
  have C : v_Cx X G cJ0_charAt_5068e RJ0 2 (v_rm 3 160) := C
  show VJ X G S 0 [(0, .ref (G.1 (145 + (3 + 2 * q)))), (1, .int x)] []
  have hlt : x.toNatClampNeg < v_slen.getD q 0 := Nat.not_le.mp fun q => hx (Or.inr q)
  refine V_aload_n C 0 dJ0_charAt_5068e_0 rfl rfl ?_
  refine V_callQz (hq := hq) (As := []) (rest := []) C (c_qisLatin1 (v_l X) G hq (fun b S1 => b = true ∧ post ((v_sbyt.getD q []).getD x.toNatClampNeg 0) S1) ⟨rfl, h⟩) KV_J0_isLatin1_aae02 k_RJ0_492 rfl rfl rfl (Nat.le_of_ble_eq_true rfl) ⟨Nat.le_of_ble_eq_true rfl, Nat.le_of_ble_eq_true rfl⟩ dJ0_charAt_5068e_1 (fun b S1 h => ?_)
  obtain ⟨rfl, h⟩ := h
  refine V_ifb_eq (tgt := 16) C dJ0_charAt_5068e_4 (by decide) (fun c => absurd c (by decide)) (fun _ => ?_)
  refine V_aload_n C 0 dJ0_charAt_5068e_7 rfl rfl ?_
  refine V_qval C hq k_RJ0_9 dJ0_charAt_5068e_8 ?_
  refine V_iload_n C 1 dJ0_charAt_5068e_11 rfl rfl ?_
  refine V_callSi (As := [.ref (G.1 (145 + (4 + 2 * q))), .int x]) (rest := []) C (c_qcharAtL (v_l X) G hq hx (fun r S1 => r = (v_sbyt.getD q []).getD x.toNatClampNeg 0 ∧ post r S1) ⟨rfl, h⟩) KV_J1_charAt_3b067 k_RJ0_495 rfl rfl rfl (Nat.le_of_ble_eq_true rfl) ⟨Nat.le_of_ble_eq_true rfl, Nat.le_of_ble_eq_true rfl⟩ dJ0_charAt_5068e_12 (fun r S1 h => ?_)
  obtain ⟨e, h⟩ := h
  exact V_nret C D (by rw [e]; exact v_q_n hq _ hlt) dJ0_charAt_5068e_15 h
set_option maxHeartbeats 4000000 in
set_option maxRecDepth 100000 in
theorem c_qstrlen (l : Launch) (G : vG) {S : vSt} {q : Nat} (hq : q < 13) (post : Int32 → vSt → Prop) (h : post (Int32.ofNat (v_slen.getD q 0)) S) : Met l yJ0_length_8abf5 (v_ws yJ0_length_8abf5 cJ0_length_8abf5 1 (some .int)) (v_rm 1 80) (v_Pc G [.ref (G.1 (145 + (3 + 2 * q)))] S) (v_Qi G post) 0 0 (v_A G) := by
  refine v_start (by decide +kernel) (Nat.le_of_ble_eq_true rfl) (fun X hl C D => ?_)
  subst hl
  have C : v_Cx X G cJ0_length_8abf5 RJ0 1 (v_rm 1 80) := C
  show VJ X G S 0 [(0, .ref (G.1 (145 + (3 + 2 * q))))] []
  refine V_aload_n C 0 dJ0_length_8abf5_0 rfl rfl ?_
  refine V_qval C hq k_RJ0_9 dJ0_length_8abf5_1 ?_
  refine V_qlen C hq dJ0_length_8abf5_4 ?_
  refine V_aload_n C 0 dJ0_length_8abf5_5 rfl rfl ?_
  refine V_callQi (hq := hq) (As := []) (rest := [.int (Int32.ofNat (v_slen.getD q 0))]) C (c_qcoder (v_l X) G hq (fun r S1 => r = 0 ∧ post (Int32.ofNat (v_slen.getD q 0)) S1) ⟨rfl, h⟩) KV_J0_coder_7d493 k_RJ0_335 rfl rfl rfl (Nat.le_of_ble_eq_true rfl) ⟨Nat.le_of_ble_eq_true rfl, Nat.le_of_ble_eq_true rfl⟩ dJ0_length_8abf5_6 (fun r S1 h => ?_)
  obtain ⟨rfl, h⟩ := h
  refine V_ishr C dJ0_length_8abf5_9 ?_
  have e : Int32.ofNat (v_slen.getD q 0) >>> ((0 : Int32) &&& 31) = Int32.ofNat (v_slen.getD q 0) := v_q_s hq
  rw [e]
  exact V_iret C D dJ0_length_8abf5_10 h
