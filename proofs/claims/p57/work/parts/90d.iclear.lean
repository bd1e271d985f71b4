/-! what the constructors call -/
def n_f4 : Nat → Int32 := upd (upd (upd (upd (fun _ => 0) 0 (-1)) 1 (-1)) 2 (-1)) 3 (-1)
def n_fr : Nat → Int32 := va_cpy (fun q => (v_sr 0).2.getD q 0) (fun _ => 0) 0 0 4
section ND
variable {X : vX} {G : vG} {cc : ByteArray} {own : String} {nL : Nat} {R : Room} {ws ws' : va_W} {k1 k2 pc : Nat} {lv lv' : List (Nat × Value)} {st : List Value}
theorem N_perm (is : List Nat) (h : is.map (fun i => ws[i]?) = ws'.map some) (hn : va_nd is = true) (hf : is.filterMap (fun i => ws[i]?) = ws') (k : NJ X G ws' k1 k2 pc lv st) : NJ X G ws k1 k2 pc lv st := fun H locs ls hP hD hS hl => k H locs ls (hP.sub is hf) (hD.sub is hn h) hS hl
theorem N_mini (C : n_Cx X G cc own nL R) {x y : Int32} {i : Nat} (hw : Cond.methodLink own i Lib.Math.min.name ∈ wsL_law) (hr : (st.map fun v => v.category).sum ≤ 8) (hR : 1 ≤ R.frames ∧ 23 ≤ R.locals) (hk1 : k1 ≤ R.cells) (hk2 : k2 ≤ R.slots) (hd : decode cc pc = .ok (.invokestatic i, 3)) (kk : NJ X G ws k1 k2 (pc + 3) lv (.int (v_mini x y) :: st)) : NJ X G ws k1 k2 pc lv (.int y :: .int x :: st) := fun H locs ls hP hD hS h => va_mmin C.x C.b (C.ml.trans h.1.symm) C.ow (C.ts _ hw) (C.ts _ (v_r5 _ (List.mem_of_getElem? (i := 19) rfl))) (C.ts _ (v_r5 _ (List.mem_of_getElem? (i := 20) rfl))) (C.ts _ (v_r5 _ (List.mem_of_getElem? (i := 21) rfl))) (by rw [C.rr]; exact hR.1) (by rw [C.rr]; omega) (by rw [C.rr]; exact hk1) (by rw [C.rr]; exact hk2) hd (kk H locs ls hP hD hS h)
theorem N_copys (C : n_Cx X G cc own nL R) {i : Nat} (j q0 : Nat) {a n2 : Nat} {f : Nat → Int32} (hj : j < 3) (he2 : ws[q0]? = some (a, .inl (G.2.2.2.1, n2, .inl f))) {sp dp n : Int32} (ho : v_cpo sp dp n 4 n2) (hw : Cond.methodLink own i arraycopyName ∈ wsL_law) (hr : (st.map fun v => v.category).sum ≤ 8) (hR : 1 ≤ R.frames ∧ 8 + (nativeFrameWords "java/lang/System" "arraycopy" 5 + 11) ≤ R.locals) (hd : decode cc pc = .ok (.invokestatic i, 3)) (kk : NJ X G (ws.set q0 (a, .inl (G.2.2.2.1, n2, .inl (va_cpy (fun q => (v_sr j).2.getD q 0) f sp.toNatClampNeg dp.toNatClampNeg n.toNatClampNeg)))) k1 k2 (pc + 3) lv st) : NJ X G ws k1 k2 pc lv (.int n :: .int dp :: .ref a :: .int sp :: .ref (G.1 (145 + j)) :: st) := fun H locs ls hP hD hS h => by
  intro T0 hT Y
  obtain ⟨scr, u1, u2, u3, u4, -, u5, u6⟩ := (C.EX.1.1 j hj).2
  obtain ⟨o1, o2, o3, o4, o5⟩ := ho
  have c0 : H[G.1 (145 + j)]? = some scr := by rw [hS.2.1 _ (Array.getElem?_eq_some_iff.mp u1).1 u6]; exact u1
  have c1 : H[a]? = some (vp_cell G.2.2.2.1 (n2, .inl f)) := hP q0 _ he2
  obtain ⟨u7, ka, hka, cma, hkka⟩ := u2
  obtain ⟨-, kb, hkb, cmb, hkkb⟩ := (C.K.2 1 _ rfl).1 n2 (fun q => .int (f q))
  obtain ⟨vm', Y', step⟩ := Y.arraycopy C.x C.ow (C.ts _ hw) (C.ts _ (v_r5 _ (List.mem_of_getElem? (i := 23) rfl))) (C.ts _ (v_r6 _ (List.mem_of_getElem? (i := 0) rfl))) (C.ts _ (v_r6 _ (List.mem_of_getElem? (i := 1) rfl))) (src := G.1 (145 + j)) (dst := a) (cs := scr) (cd := vp_cell G.2.2.2.1 (n2, .inl f)) (srcPos := sp) (destPos := dp) (n := n) (by rw [hT]; exact c0) (by rw [hT]; exact c1) u7 (fun _ z => by cases z) u3 (fun z => by cases z) hka hkb hkka hkkb (by simp [refKind]) o1 o2 o3
    (by rw [v_nn sp o1, v_nn n o3]; have := u4; omega)
    (by rw [v_nn dp o2, v_nn n o3]; show ¬ _ > ((arrV G.2.2.2.1 n2 (fun q => .int (f q))).slots.size : Int); rw [arrV_size]; omega)
    (fun vm₁ _ q hq => by
      have e : scr.slots.getD (sp.toNatClampNeg + q) .null = .int ((v_sr j).2.getD (sp.toNatClampNeg + q) 0) := by
        rw [Array.getD_eq_getD_getElem?, u5 _ (by omega)]; rfl
      rw [e]
      exact ⟨rfl, trivial⟩)
    (g := F0 (v_m X) pc ls (.int n :: .int dp :: .ref a :: .int sp :: .ref (G.1 (145 + j)) :: st)) rfl (h.1.trans C.ml.symm) (rest := st) rfl (by rw [C.b]; exact hd) (by rw [C.rr]; exact hR.1) (by rw [C.rr]; show 2 * 0 + _ + _ ≤ _; omega)
  have e1 : copied scr (vp_cell G.2.2.2.1 (n2, .inl f)) sp dp n = vp_cell G.2.2.2.1 (n2, .inl (va_cpy (fun q => (v_sr j).2.getD q 0) f sp.toNatClampNeg dp.toNatClampNeg n.toNatClampNeg)) := va_copiedX (fun z => .int z) scr G.2.2.2.1 (fun q => (v_sr j).2.getD q 0) f u5 o4
  rw [e1] at Y' step
  have hl : a < H.size := (Array.getElem?_eq_some_iff.mp c1).1
  have oq : ∀ q : Nat, q ≠ a → (H.setIfInBounds a (vp_cell G.2.2.2.1 (n2, .inl (va_cpy (fun q => (v_sr j).2.getD q 0) f sp.toNatClampNeg dp.toNatClampNeg n.toNatClampNeg))))[q]? = H[q]? := fun q hq => by simp [Array.getElem?_setIfInBounds, Ne.symm hq]
  have hP1 := hP.set hD he2 (e := .inl (G.2.2.2.1, n2, .inl (va_cpy (fun q => (v_sr j).2.getD q 0) f sp.toNatClampNeg dp.toNatClampNeg n.toNatClampNeg))) (show (H.setIfInBounds a _)[a]? = some _ by simp [Array.getElem?_setIfInBounds, hl]) oq
  have aA : v_AA X a := hD.2 q0 _ he2
  obtain ⟨t, a1, b1⟩ := kk _ _ ls hP1 (hD.set he2) ⟨by simp; exact hS.1, fun q g1 g2 => by
      rw [oq q (fun z => g2 (by rw [z]; exact aA))]
      exact hS.2.1 q g1 g2, fun q hq => by
      rcases List.mem_append.mp hq with z | z
      · exact hS.2.2 q z
      · obtain ⟨zz, -, hz⟩ := List.mem_map.mp z
        rw [← hz]
        exact aA⟩ h _ (by rw [← hT]; rfl) Y'
  exact ⟨t, step t a1, b1⟩
end ND
set_option maxHeartbeats 4000000 in
set_option maxRecDepth 100000 in
theorem i_copy (l : Launch) (G : vG) (a sz : Nat) (post : va_W → Prop) (h : post [(a, .inl (G.2.2.2.1, 4, .inl n_fr))]) : Met l yX10_copy (v_ws yX10_copy cX10_copy 2 none) (n_rm 1 80 0 0) (n_Pc G [.ref (G.1 145), .ref a] [(a, .inl (G.2.2.2.1, 4, .inl (fun _ => 0)))] sz) (n_Qv G [(a, .inl (G.2.2.2.1, 4, .inl (fun _ => 0)))] sz post) 0 0 (va_A [(a, .inl (G.2.2.2.1, 4, .inl (fun _ => 0)))] sz) := by
  refine n_start (by decide +kernel) (Nat.le_of_ble_eq_true rfl) (fun X hl _ C D => ?_)
  subst hl
  have C : n_Cx X G cX10_copy RX10 2 (n_rm 1 80 0 0) := C
  show NJ X G [(a, .inl (G.2.2.2.1, 4, .inl (fun _ => 0)))] 0 0 0 [(0, .ref (G.1 145)), (1, .ref a)] []
  refine N_aload_n C 0 dX10_copy_0 rfl rfl ?_
  refine N_iconst (v := 0) C dX10_copy_1 (by decide) ?_
  refine N_aload_n C 1 dX10_copy_2 rfl rfl ?_
  refine N_iconst (v := 0) C dX10_copy_3 (by decide) ?_
  refine N_aload_n C 0 dX10_copy_4 rfl rfl ?_
  refine N_tlen C 0 (by decide) dX10_copy_5 ?_
  refine N_aload_n C 1 dX10_copy_6 rfl rfl ?_
  refine N_alen (v := 4) C 0 1 rfl rfl rfl dX10_copy_7 ?_
  refine N_mini C k_RX10_455 (Nat.le_of_ble_eq_true rfl) ⟨Nat.le_of_ble_eq_true rfl, Nat.le_of_ble_eq_true rfl⟩ (Nat.zero_le _) (Nat.zero_le _) dX10_copy_8 ?_
  refine N_copys (n2 := 4) (f := fun _ => 0) C 0 0 (by decide) rfl (by unfold v_cpo; decide) k_RX10_458 (Nat.le_of_ble_eq_true rfl) ⟨Nat.le_of_ble_eq_true rfl, by decide +kernel⟩ dX10_copy_11 ?_
  refine N_ws (ws' := [(a, .inl (G.2.2.2.1, 4, .inl n_fr))]) (by rw [show Int32.toNatClampNeg (v_mini 4 4) = 4 from by decide, show Int32.toNatClampNeg 0 = 0 from by decide]; rfl) ?_
  exact N_vret C D (Nat.le_of_ble_eq_true rfl) (Nat.le_of_ble_eq_true rfl) dX10_copy_14 h
set_option maxHeartbeats 4000000 in
set_option maxRecDepth 100000 in
theorem i_yclear (l : Launch) (G : vG) (h0 y1 y2 y3 y4 y5 y6 sz : Nat) (post : va_W → Prop) (h : post [(h0, .inr (8, [.ref y1, .ref y2, .ref y3, .ref y4, .ref y5, .ref y6, .int 0, .int 0, .int 0]))]) : Met l yX8_clear (v_ws yX8_clear cX8_clear 1 none) (n_rm 0 20 0 0) (n_Pc G [.ref h0] [(h0, .inr (8, [.ref y1, .ref y2, .ref y3, .ref y4, .ref y5, .ref y6, .int 0, .int 0, .int 0]))] sz) (n_Qv G [(h0, .inr (8, [.ref y1, .ref y2, .ref y3, .ref y4, .ref y5, .ref y6, .int 0, .int 0, .int 0]))] sz post) 0 0 (va_A [(h0, .inr (8, [.ref y1, .ref y2, .ref y3, .ref y4, .ref y5, .ref y6, .int 0, .int 0, .int 0]))] sz) := by
  refine n_start (by decide +kernel) (Nat.le_of_ble_eq_true rfl) (fun X hl _ C D => ?_)
  subst hl
  have C : n_Cx X G cX8_clear RX8 1 (n_rm 0 20 0 0) := C
  show NJ X G [(h0, .inr (8, [.ref y1, .ref y2, .ref y3, .ref y4, .ref y5, .ref y6, .int 0, .int 0, .int 0]))] 0 0 0 [(0, .ref h0)] []
  refine N_aload_n C 0 dX8_clear_0 rfl rfl ?_
  refine N_iconst (v := 0) C dX8_clear_1 (by decide) ?_
  refine N_put (ci := 8) (T := TX8) (N := 9) C 0 rfl rfl inlX8 tyX8_ok nmX8 6 (by decide) rfl k_RX8_30 rfl (tyX8_ok 6 (by decide)) rfl rfl (Nat.le_of_ble_eq_true rfl) dX8_clear_2 ?_
  refine N_ws (ws' := [(h0, .inr (8, [.ref y1, .ref y2, .ref y3, .ref y4, .ref y5, .ref y6, .int 0, .int 0, .int 0]))]) rfl ?_
  refine N_aload_n C 0 dX8_clear_5 rfl rfl ?_
  refine N_iconst (v := 0) C dX8_clear_6 (by decide) ?_
  refine N_put (ci := 8) (T := TX8) (N := 9) C 0 rfl rfl inlX8 tyX8_ok nmX8 7 (by decide) rfl k_RX8_34 rfl (tyX8_ok 7 (by decide)) rfl rfl (Nat.le_of_ble_eq_true rfl) dX8_clear_7 ?_
  refine N_ws (ws' := [(h0, .inr (8, [.ref y1, .ref y2, .ref y3, .ref y4, .ref y5, .ref y6, .int 0, .int 0, .int 0]))]) rfl ?_
  refine N_aload_n C 0 dX8_clear_10 rfl rfl ?_
  refine N_iconst (v := 0) C dX8_clear_11 (by decide) ?_
  refine N_put (ci := 8) (T := TX8) (N := 9) C 0 rfl rfl inlX8 tyX8_ok nmX8 8 (by decide) rfl k_RX8_37 rfl (tyX8_ok 8 (by decide)) rfl rfl (Nat.le_of_ble_eq_true rfl) dX8_clear_12 ?_
  refine N_ws (ws' := [(h0, .inr (8, [.ref y1, .ref y2, .ref y3, .ref y4, .ref y5, .ref y6, .int 0, .int 0, .int 0]))]) rfl ?_
  exact N_vret C D (Nat.le_of_ble_eq_true rfl) (Nat.le_of_ble_eq_true rfl) dX8_clear_15 h
set_option maxHeartbeats 4000000 in
set_option maxRecDepth 100000 in
theorem i_clear (l : Launch) (G : vG) (h0 a1 a2 a3 a4 a5 a6 a7 a8 a9 a10 a11 a12 a13 a14 a15 y1 y2 y3 y4 y5 y6 sz : Nat) (post : va_W → Prop) (h : post [(h0, .inr (0, [.ref a1, .ref a2, .ref a3, .ref a4, .ref a5, .ref a6, .ref a7, .ref a8, .ref a9, .ref a10, .ref a11, .ref a12, .ref a13, .ref a14, .ref a15, .int 0, .int 0, .int 0, .int 0])), (a1, .inl (G.2.2.2.1, 4, .inl n_fr)), (a15, .inr (8, [.ref y1, .ref y2, .ref y3, .ref y4, .ref y5, .ref y6, .int 0, .int 0, .int 0]))]) : Met l yX0_clear (v_ws yX0_clear cX0_clear 1 none) (n_rm 2 130 0 0) (n_Pc G [.ref h0] [(h0, .inr (0, [.ref a1, .ref a2, .ref a3, .ref a4, .ref a5, .ref a6, .ref a7, .ref a8, .ref a9, .ref a10, .ref a11, .ref a12, .ref a13, .ref a14, .ref a15, .int 0, .int 0, .int 0, .int 0])), (a1, .inl (G.2.2.2.1, 4, .inl (fun _ => 0))), (a15, .inr (8, [.ref y1, .ref y2, .ref y3, .ref y4, .ref y5, .ref y6, .int 0, .int 0, .int 0]))] sz) (n_Qv G [(h0, .inr (0, [.ref a1, .ref a2, .ref a3, .ref a4, .ref a5, .ref a6, .ref a7, .ref a8, .ref a9, .ref a10, .ref a11, .ref a12, .ref a13, .ref a14, .ref a15, .int 0, .int 0, .int 0, .int 0])), (a1, .inl (G.2.2.2.1, 4, .inl (fun _ => 0))), (a15, .inr (8, [.ref y1, .ref y2, .ref y3, .ref y4, .ref y5, .ref y6, .int 0, .int 0, .int 0]))] sz post) 0 0 (va_A [(h0, .inr (0, [.ref a1, .ref a2, .ref a3, .ref a4, .ref a5, .ref a6, .ref a7, .ref a8, .ref a9, .ref a10, .ref a11, .ref a12, .ref a13, .ref a14, .ref a15, .int 0, .int 0, .int 0, .int 0])), (a1, .inl (G.2.2.2.1, 4, .inl (fun _ => 0))), (a15, .inr (8, [.ref y1, .ref y2, .ref y3, .ref y4, .ref y5, .ref y6, .int 0, .int 0, .int 0]))] sz) := by
  refine n_start (by decide +kernel) (Nat.le_of_ble_eq_true rfl) (fun X hl _ C D => ?_)
  subst hl
  have C : n_Cx X G cX0_clear RX0 1 (n_rm 2 130 0 0) := C
  show NJ X G [(h0, .inr (0, [.ref a1, .ref a2, .ref a3, .ref a4, .ref a5, .ref a6, .ref a7, .ref a8, .ref a9, .ref a10, .ref a11, .ref a12, .ref a13, .ref a14, .ref a15, .int 0, .int 0, .int 0, .int 0])), (a1, .inl (G.2.2.2.1, 4, .inl (fun _ => 0))), (a15, .inr (8, [.ref y1, .ref y2, .ref y3, .ref y4, .ref y5, .ref y6, .int 0, .int 0, .int 0]))] 0 0 0 [(0, .ref h0)] []
  refine N_getsN C 0 (by decide) (List.mem_of_getElem? (i := 0) rfl) dX0_clear_0 ?_
  refine N_aload_n C 0 dX0_clear_3 rfl rfl ?_
  refine N_get (ci := 0) (T := TX0) (N := 19) (v := .ref a1) C 0 rfl rfl inlX0 0 (by decide) rfl k_RX0_9 rfl dX0_clear_4 ?_
  refine N_perm (ws' := [(h0, .inr (0, [.ref a1, .ref a2, .ref a3, .ref a4, .ref a5, .ref a6, .ref a7, .ref a8, .ref a9, .ref a10, .ref a11, .ref a12, .ref a13, .ref a14, .ref a15, .int 0, .int 0, .int 0, .int 0])), (a15, .inr (8, [.ref y1, .ref y2, .ref y3, .ref y4, .ref y5, .ref y6, .int 0, .int 0, .int 0])), (a1, .inl (G.2.2.2.1, 4, .inl (fun _ => 0)))]) [0, 2, 1] rfl (by decide) rfl ?_
  refine N_callSN (wr := [(h0, .inr (0, [.ref a1, .ref a2, .ref a3, .ref a4, .ref a5, .ref a6, .ref a7, .ref a8, .ref a9, .ref a10, .ref a11, .ref a12, .ref a13, .ref a14, .ref a15, .int 0, .int 0, .int 0, .int 0])), (a15, .inr (8, [.ref y1, .ref y2, .ref y3, .ref y4, .ref y5, .ref y6, .int 0, .int 0, .int 0]))]) (wc := [(a1, .inl (G.2.2.2.1, 4, .inl (fun _ => 0)))]) (As := [.ref (G.1 145), .ref a1]) (rest := []) (mc := 0) (ms := 0) (post := fun w => w = [(a1, .inl (G.2.2.2.1, 4, .inl n_fr))]) C (fun sz => i_copy (v_l X) G a1 sz _ rfl) KV_X10_copy (List.mem_of_getElem? (i := 2) rfl) rfl rfl (Nat.le_of_ble_eq_true rfl) ⟨Nat.le_of_ble_eq_true rfl, Nat.le_of_ble_eq_true rfl⟩ ⟨Nat.le_of_ble_eq_true rfl, Nat.le_of_ble_eq_true rfl⟩ dX0_clear_7 rfl ?_
  rintro _ rfl
  refine N_perm (ws' := [(h0, .inr (0, [.ref a1, .ref a2, .ref a3, .ref a4, .ref a5, .ref a6, .ref a7, .ref a8, .ref a9, .ref a10, .ref a11, .ref a12, .ref a13, .ref a14, .ref a15, .int 0, .int 0, .int 0, .int 0])), (a1, .inl (G.2.2.2.1, 4, .inl n_fr)), (a15, .inr (8, [.ref y1, .ref y2, .ref y3, .ref y4, .ref y5, .ref y6, .int 0, .int 0, .int 0]))]) [0, 2, 1] rfl (by decide) rfl ?_
  refine N_aload_n C 0 dX0_clear_10 rfl rfl ?_
  refine N_iconst (v := 0) C dX0_clear_11 (by decide) ?_
  refine N_put (ci := 0) (T := TX0) (N := 19) C 0 rfl rfl inlX0 tyX0_ok nmX0 15 (by decide) rfl k_RX0_72 rfl (tyX0_ok 15 (by decide)) rfl rfl (Nat.le_of_ble_eq_true rfl) dX0_clear_12 ?_
  refine N_ws (ws' := [(h0, .inr (0, [.ref a1, .ref a2, .ref a3, .ref a4, .ref a5, .ref a6, .ref a7, .ref a8, .ref a9, .ref a10, .ref a11, .ref a12, .ref a13, .ref a14, .ref a15, .int 0, .int 0, .int 0, .int 0])), (a1, .inl (G.2.2.2.1, 4, .inl n_fr)), (a15, .inr (8, [.ref y1, .ref y2, .ref y3, .ref y4, .ref y5, .ref y6, .int 0, .int 0, .int 0]))]) rfl ?_
  refine N_aload_n C 0 dX0_clear_15 rfl rfl ?_
  refine N_iconst (v := 0) C dX0_clear_16 (by decide) ?_
  refine N_put (ci := 0) (T := TX0) (N := 19) C 0 rfl rfl inlX0 tyX0_ok nmX0 16 (by decide) rfl k_RX0_76 rfl (tyX0_ok 16 (by decide)) rfl rfl (Nat.le_of_ble_eq_true rfl) dX0_clear_17 ?_
  refine N_ws (ws' := [(h0, .inr (0, [.ref a1, .ref a2, .ref a3, .ref a4, .ref a5, .ref a6, .ref a7, .ref a8, .ref a9, .ref a10, .ref a11, .ref a12, .ref a13, .ref a14, .ref a15, .int 0, .int 0, .int 0, .int 0])), (a1, .inl (G.2.2.2.1, 4, .inl n_fr)), (a15, .inr (8, [.ref y1, .ref y2, .ref y3, .ref y4, .ref y5, .ref y6, .int 0, .int 0, .int 0]))]) rfl ?_
  refine N_aload_n C 0 dX0_clear_20 rfl rfl ?_
  refine N_iconst (v := 0) C dX0_clear_21 (by decide) ?_
  refine N_put (ci := 0) (T := TX0) (N := 19) C 0 rfl rfl inlX0 tyX0_ok nmX0 17 (by decide) rfl k_RX0_79 rfl (tyX0_ok 17 (by decide)) rfl rfl (Nat.le_of_ble_eq_true rfl) dX0_clear_22 ?_
  refine N_ws (ws' := [(h0, .inr (0, [.ref a1, .ref a2, .ref a3, .ref a4, .ref a5, .ref a6, .ref a7, .ref a8, .ref a9, .ref a10, .ref a11, .ref a12, .ref a13, .ref a14, .ref a15, .int 0, .int 0, .int 0, .int 0])), (a1, .inl (G.2.2.2.1, 4, .inl n_fr)), (a15, .inr (8, [.ref y1, .ref y2, .ref y3, .ref y4, .ref y5, .ref y6, .int 0, .int 0, .int 0]))]) rfl ?_
  refine N_aload_n C 0 dX0_clear_25 rfl rfl ?_
  refine N_iconst (v := 0) C dX0_clear_26 (by decide) ?_
  refine N_put (ci := 0) (T := TX0) (N := 19) C 0 rfl rfl inlX0 tyX0_ok nmX0 18 (by decide) rfl k_RX0_82 rfl (tyX0_ok 18 (by decide)) rfl rfl (Nat.le_of_ble_eq_true rfl) dX0_clear_27 ?_
  refine N_ws (ws' := [(h0, .inr (0, [.ref a1, .ref a2, .ref a3, .ref a4, .ref a5, .ref a6, .ref a7, .ref a8, .ref a9, .ref a10, .ref a11, .ref a12, .ref a13, .ref a14, .ref a15, .int 0, .int 0, .int 0, .int 0])), (a1, .inl (G.2.2.2.1, 4, .inl n_fr)), (a15, .inr (8, [.ref y1, .ref y2, .ref y3, .ref y4, .ref y5, .ref y6, .int 0, .int 0, .int 0]))]) rfl ?_
  refine N_aload_n C 0 dX0_clear_30 rfl rfl ?_
  refine N_get (ci := 0) (T := TX0) (N := 19) (v := .ref a15) C 0 rfl rfl inlX0 14 (by decide) rfl k_RX0_58 rfl dX0_clear_31 ?_
  refine N_callV (wr := [(h0, .inr (0, [.ref a1, .ref a2, .ref a3, .ref a4, .ref a5, .ref a6, .ref a7, .ref a8, .ref a9, .ref a10, .ref a11, .ref a12, .ref a13, .ref a14, .ref a15, .int 0, .int 0, .int 0, .int 0])), (a1, .inl (G.2.2.2.1, 4, .inl n_fr))]) (wc := [(a15, .inr (8, [.ref y1, .ref y2, .ref y3, .ref y4, .ref y5, .ref y6, .int 0, .int 0, .int 0]))]) (As := []) (rest := []) (mc := 0) (ms := 0) (ci := 8) (T := TX8) (N := 9) (post := fun w => w = [(a15, .inr (8, [.ref y1, .ref y2, .ref y3, .ref y4, .ref y5, .ref y6, .int 0, .int 0, .int 0]))]) C 0 (fun sz => i_yclear (v_l X) G a15 y1 y2 y3 y4 y5 y6 sz _ rfl) rfl rfl KV_X8_clear k_RX0_85 rfl rfl (Nat.le_of_ble_eq_true rfl) ⟨Nat.le_of_ble_eq_true rfl, Nat.le_of_ble_eq_true rfl⟩ ⟨Nat.le_of_ble_eq_true rfl, Nat.le_of_ble_eq_true rfl⟩ dX0_clear_34 rfl ?_
  rintro _ rfl
  exact N_vret C D (Nat.le_of_ble_eq_true rfl) (Nat.le_of_ble_eq_true rfl) dX0_clear_37 h
set_option maxHeartbeats 4000000 in
set_option maxRecDepth 100000 in
theorem i_fill (l : Launch) (G : vG) (a sz : Nat) (post : va_W → Prop) (h : post [(a, .inl (G.2.2.2.1, 4, .inl n_f4))]) : Met l yJ7_fill_53178 (v_ws yJ7_fill_53178 cJ7_fill_53178 4 none) (n_rm 0 40 0 0) (n_Pc G [.ref a, .int (-1)] [(a, .inl (G.2.2.2.1, 4, .inl (fun _ => 0)))] sz) (n_Qv G [(a, .inl (G.2.2.2.1, 4, .inl (fun _ => 0)))] sz post) 0 0 (va_A [(a, .inl (G.2.2.2.1, 4, .inl (fun _ => 0)))] sz) := by
  refine n_start (by decide +kernel) (Nat.le_of_ble_eq_true rfl) (fun X hl _ C D => ?_)
  subst hl
  have C : n_Cx X G cJ7_fill_53178 RJ7 4 (n_rm 0 40 0 0) := C
  show NJ X G [(a, .inl (G.2.2.2.1, 4, .inl (fun _ => 0)))] 0 0 0 [(0, .ref a), (1, .int (-1))] []
  refine N_iconst (v := 0) C dJ7_fill_53178_0 (by decide) ?_
  refine N_istore_n (lv' := [(0, .ref a), (1, .int (-1)), (2, .int 0)]) C [1, 2, 0] dJ7_fill_53178_1 rfl (by decide) rfl ?_
  refine N_aload_n C 0 dJ7_fill_53178_2 rfl rfl ?_
  refine N_alen (v := 4) C 0 1 rfl rfl rfl dJ7_fill_53178_3 ?_
  refine N_istore_n (lv' := [(0, .ref a), (1, .int (-1)), (2, .int 0), (3, .int 4)]) C [1, 2, 3, 0] dJ7_fill_53178_4 rfl (by decide) rfl ?_
  refine N_iload_n C 2 dJ7_fill_53178_5 rfl rfl ?_
  refine N_iload_n C 3 dJ7_fill_53178_6 rfl rfl ?_
  refine N_icmp_ge0 (tgt := 20) C dJ7_fill_53178_7 (by decide) (by decide) ?_
  refine N_aload_n C 0 dJ7_fill_53178_10 rfl rfl ?_
  refine N_iload_n C 2 dJ7_fill_53178_11 rfl rfl ?_
  refine N_iload_n C 1 dJ7_fill_53178_12 rfl rfl ?_
  refine N_iast (n := 4) (f := fun _ => 0) C 0 rfl (vpin (n := 0) ⟨by omega, by omega⟩) dJ7_fill_53178_13 ?_
  refine N_ws (ws' := [(a, .inl (G.2.2.2.1, 4, .inl (upd (fun _ => 0) 0 (-1))))]) rfl ?_
  refine N_iinc (lv' := [(0, .ref a), (1, .int (-1)), (2, .int 1), (3, .int 4)]) C 2 [1, 2, 0, 3] 1 dJ7_fill_53178_14 rfl rfl (by decide) rfl ?_
  refine N_goto (tgt := 5) C dJ7_fill_53178_17 (by decide) ?_
  refine N_iload_n C 2 dJ7_fill_53178_5 rfl rfl ?_
  refine N_iload_n C 3 dJ7_fill_53178_6 rfl rfl ?_
  refine N_icmp_ge0 (tgt := 20) C dJ7_fill_53178_7 (by decide) (by decide) ?_
  refine N_aload_n C 0 dJ7_fill_53178_10 rfl rfl ?_
  refine N_iload_n C 2 dJ7_fill_53178_11 rfl rfl ?_
  refine N_iload_n C 1 dJ7_fill_53178_12 rfl rfl ?_
  refine N_iast (n := 4) (f := upd (fun _ => 0) 0 (-1)) C 0 rfl (vpin (n := 1) ⟨by omega, by omega⟩) dJ7_fill_53178_13 ?_
  refine N_ws (ws' := [(a, .inl (G.2.2.2.1, 4, .inl (upd (upd (fun _ => 0) 0 (-1)) 1 (-1))))]) rfl ?_
  refine N_iinc (lv' := [(0, .ref a), (1, .int (-1)), (2, .int 2), (3, .int 4)]) C 2 [1, 2, 0, 3] 2 dJ7_fill_53178_14 rfl rfl (by decide) rfl ?_
  refine N_goto (tgt := 5) C dJ7_fill_53178_17 (by decide) ?_
  refine N_iload_n C 2 dJ7_fill_53178_5 rfl rfl ?_
  refine N_iload_n C 3 dJ7_fill_53178_6 rfl rfl ?_
  refine N_icmp_ge0 (tgt := 20) C dJ7_fill_53178_7 (by decide) (by decide) ?_
  refine N_aload_n C 0 dJ7_fill_53178_10 rfl rfl ?_
  refine N_iload_n C 2 dJ7_fill_53178_11 rfl rfl ?_
  refine N_iload_n C 1 dJ7_fill_53178_12 rfl rfl ?_
  refine N_iast (n := 4) (f := upd (upd (fun _ => 0) 0 (-1)) 1 (-1)) C 0 rfl (vpin (n := 2) ⟨by omega, by omega⟩) dJ7_fill_53178_13 ?_
  refine N_ws (ws' := [(a, .inl (G.2.2.2.1, 4, .inl (upd (upd (upd (fun _ => 0) 0 (-1)) 1 (-1)) 2 (-1))))]) rfl ?_
  refine N_iinc (lv' := [(0, .ref a), (1, .int (-1)), (2, .int 3), (3, .int 4)]) C 2 [1, 2, 0, 3] 3 dJ7_fill_53178_14 rfl rfl (by decide) rfl ?_
  refine N_goto (tgt := 5) C dJ7_fill_53178_17 (by decide) ?_
  refine N_iload_n C 2 dJ7_fill_53178_5 rfl rfl ?_
  refine N_iload_n C 3 dJ7_fill_53178_6 rfl rfl ?_
  refine N_icmp_ge0 (tgt := 20) C dJ7_fill_53178_7 (by decide) (by decide) ?_
  refine N_aload_n C 0 dJ7_fill_53178_10 rfl rfl ?_
  refine N_iload_n C 2 dJ7_fill_53178_11 rfl rfl ?_
  refine N_iload_n C 1 dJ7_fill_53178_12 rfl rfl ?_
  refine N_iast (n := 4) (f := upd (upd (upd (fun _ => 0) 0 (-1)) 1 (-1)) 2 (-1)) C 0 rfl (vpin (n := 3) ⟨by omega, by omega⟩) dJ7_fill_53178_13 ?_
  refine N_ws (ws' := [(a, .inl (G.2.2.2.1, 4, .inl (upd (upd (upd (upd (fun _ => 0) 0 (-1)) 1 (-1)) 2 (-1)) 3 (-1))))]) rfl ?_
  refine N_iinc (lv' := [(0, .ref a), (1, .int (-1)), (2, .int 4), (3, .int 4)]) C 2 [1, 2, 0, 3] 4 dJ7_fill_53178_14 rfl rfl (by decide) rfl ?_
  refine N_goto (tgt := 5) C dJ7_fill_53178_17 (by decide) ?_
  refine N_iload_n C 2 dJ7_fill_53178_5 rfl rfl ?_
  refine N_iload_n C 3 dJ7_fill_53178_6 rfl rfl ?_
  refine N_icmp_ge1 (tgt := 20) C dJ7_fill_53178_7 (by decide) (by decide) ?_
  exact N_vret C D (Nat.le_of_ble_eq_true rfl) (Nat.le_of_ble_eq_true rfl) dJ7_fill_53178_20 h
