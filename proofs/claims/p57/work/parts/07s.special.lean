theorem v_row_ci {S : vSt} {k k2 sp dp n a : Nat} (h : a ≠ k2) : (v_ci S k k2 sp dp n).1 a = S.1 a := by funext b; simp [v_ci, h]
theorem v_row_ci_self {S : vSt} {k k2 sp dp n : Nat} : (v_ci S k k2 sp dp n).1 k2 = va_cpy (S.1 k) (S.1 k2) sp dp n := by funext b; simp [v_ci]
theorem v_row_cl {S : vSt} {k k2 sp dp n a : Nat} (h : a ≠ k2) : (v_cl S k k2 sp dp n).2 a = S.2 a := by funext b; simp [v_cl, h]
theorem v_row_cl_self {S : vSt} {k k2 sp dp n : Nat} : (v_cl S k k2 sp dp n).2 k2 = va_cpy (S.2 k) (S.2 k2) sp dp n := by funext b; simp [v_cl]
/-- out of a static row -/
def v_cs (S : vSt) (j k2 sp dp n : Nat) : vSt := (fun a b => if a = k2 then va_cpy (fun i => (v_sr j).2.getD i 0) (S.1 k2) sp dp n b else S.1 a b, S.2)
theorem v_row_cs {S : vSt} {j k2 sp dp n a : Nat} (h : a ≠ k2) : (v_cs S j k2 sp dp n).1 a = S.1 a := by funext b; simp [v_cs, h]
theorem v_row_cs_self {S : vSt} {j k2 sp dp n : Nat} : (v_cs S j k2 sp dp n).1 k2 = va_cpy (fun i => (v_sr j).2.getD i 0) (S.1 k2) sp dp n := by funext b; simp [v_cs]
section VS
variable {X : vX} {G : vG} {cc : ByteArray} {own : String} {nL : Nat} {R : Room} {S : vSt} {pc : Nat} {lv lv' : List (Nat × Value)} {st : List Value}
def v_cpo (sp dp n : Int32) (n1 n2 : Nat) : Prop := ¬ sp < 0 ∧ ¬ dp < 0 ∧ ¬ n < 0 ∧ sp.toNatClampNeg + n.toNatClampNeg ≤ n1 ∧ dp.toNatClampNeg + n.toNatClampNeg ≤ n2
theorem V_copyi (C : v_Cx X G cc own nL R) {i : Nat} (k1 k2 n1 n2 : Nat) (hk1 : k1 < 145) (hs1 : v_sh k1 = (13, n1)) (hk2 : k2 < 145) (hs2 : v_sh k2 = (13, n2)) {sp dp n : Int32} (ho : v_cpo sp dp n n1 n2) (hw : Cond.methodLink own i arraycopyName ∈ wsL_law) (hr : (st.map fun v => v.category).sum ≤ 8) (hR : 1 ≤ R.frames ∧ 8 + (nativeFrameWords "java/lang/System" "arraycopy" 5 + 11) ≤ R.locals) (hd : decode cc pc = .ok (.invokestatic i, 3)) (kk : VJ X G (v_ci S k1 k2 sp.toNatClampNeg dp.toNatClampNeg n.toNatClampNeg) (pc + 3) lv st) : VJ X G S pc lv (.int n :: .int dp :: .ref (G.1 k2) :: .int sp :: .ref (G.1 k1) :: st) := fun H locs ls hP hS h => by
  refine va_copyi (D := G.2.1) (cl := vwCl) C.x C.b (C.ml.trans h.1.symm) C.ow (C.ts _ hw) (C.ts _ (v_r5 _ (List.mem_of_getElem? (i := 23) rfl))) (C.ts _ (v_r6 _ (List.mem_of_getElem? (i := 0) rfl))) (C.ts _ (v_r6 _ (List.mem_of_getElem? (i := 1) rfl))) C.K hP (C.DD.wl S) hS k1 k2 1 1 (c0 := G.2.2.2.1) (c1 := G.2.2.2.1) (n0 := n1) (n1 := n2) (f := S.1 k1) (g := S.1 k2) (by rw [v_wl_at hk1]; simp [v_ce, hs1]) (by rw [v_wl_at hk2]; simp [v_ce, hs2]) rfl rfl rfl ho.1 ho.2.1 ho.2.2.1 ho.2.2.2.1 ho.2.2.2.2 (fun _ _ => rfl) (by rw [C.rr]; exact hR.1) (by rw [C.rr]; omega) hd (fun H1 locs1 hP1 _ hS1 => ?_)
  rw [v_wl_set (S := S) (S' := v_ci S k1 k2 sp.toNatClampNeg dp.toNatClampNeg n.toNatClampNeg) hk2 (fun a _ hn => v_ce_eq (v_row_ci hn) rfl) (by simp [v_ce, hs2, v_row_ci_self])] at hP1
  exact kk H1 locs1 ls hP1 hS1 h
theorem V_copyl (C : v_Cx X G cc own nL R) {i : Nat} (k1 k2 n1 n2 : Nat) (hk1 : k1 < 145) (hs1 : v_sh k1 = (14, n1)) (hk2 : k2 < 145) (hs2 : v_sh k2 = (14, n2)) {sp dp n : Int32} (ho : v_cpo sp dp n n1 n2) (hw : Cond.methodLink own i arraycopyName ∈ wsL_law) (hr : (st.map fun v => v.category).sum ≤ 8) (hR : 1 ≤ R.frames ∧ 8 + (nativeFrameWords "java/lang/System" "arraycopy" 5 + 11) ≤ R.locals) (hd : decode cc pc = .ok (.invokestatic i, 3)) (kk : VJ X G (v_cl S k1 k2 sp.toNatClampNeg dp.toNatClampNeg n.toNatClampNeg) (pc + 3) lv st) : VJ X G S pc lv (.int n :: .int dp :: .ref (G.1 k2) :: .int sp :: .ref (G.1 k1) :: st) := fun H locs ls hP hS h => by
  refine va_copyl (D := G.2.1) (cl := vwCl) C.x C.b (C.ml.trans h.1.symm) C.ow (C.ts _ hw) (C.ts _ (v_r5 _ (List.mem_of_getElem? (i := 23) rfl))) (C.ts _ (v_r6 _ (List.mem_of_getElem? (i := 0) rfl))) (C.ts _ (v_r6 _ (List.mem_of_getElem? (i := 1) rfl))) C.K hP (C.DD.wl S) hS k1 k2 2 2 (c0 := G.2.2.2.2.1) (c1 := G.2.2.2.2.1) (n0 := n1) (n1 := n2) (f := S.2 k1) (g := S.2 k2) (by rw [v_wl_at hk1]; simp [v_ce, hs1]) (by rw [v_wl_at hk2]; simp [v_ce, hs2]) rfl rfl rfl ho.1 ho.2.1 ho.2.2.1 ho.2.2.2.1 ho.2.2.2.2 (fun _ _ => rfl) (by rw [C.rr]; exact hR.1) (by rw [C.rr]; omega) hd (fun H1 locs1 hP1 _ hS1 => ?_)
  rw [v_wl_set (S := S) (S' := v_cl S k1 k2 sp.toNatClampNeg dp.toNatClampNeg n.toNatClampNeg) hk2 (fun a _ hn => v_ce_eq rfl (v_row_cl hn)) (by simp [v_ce, hs2, v_row_cl_self])] at hP1
  exact kk H1 locs1 ls hP1 hS1 h
theorem v_nn (z : Int32) (hz : ¬ z < 0) : z.toInt = (z.toNatClampNeg : Int) := by
  have h1 : (0 : Int) ≤ z.toInt := by
    have := Int32.le_iff_toInt_le.mp (Int32.not_lt.mp hz)
    simpa using this
  show z.toInt = ((z.toInt.toNat : Nat) : Int)
  omega
theorem V_copys (C : v_Cx X G cc own nL R) {i : Nat} (j k2 n2 : Nat) (hj : j < 3) (hk2 : k2 < 145) (hs2 : v_sh k2 = (13, n2)) {sp dp n : Int32} (ho : v_cpo sp dp n 4 n2) (hw : Cond.methodLink own i arraycopyName ∈ wsL_law) (hr : (st.map fun v => v.category).sum ≤ 8) (hR : 1 ≤ R.frames ∧ 8 + (nativeFrameWords "java/lang/System" "arraycopy" 5 + 11) ≤ R.locals) (hd : decode cc pc = .ok (.invokestatic i, 3)) (kk : VJ X G (v_cs S j k2 sp.toNatClampNeg dp.toNatClampNeg n.toNatClampNeg) (pc + 3) lv st) : VJ X G S pc lv (.int n :: .int dp :: .ref (G.1 k2) :: .int sp :: .ref (G.1 (145 + j)) :: st) := fun H locs ls hP hS h => by
  intro T0 hT Y
  obtain ⟨scr, u1, u2, u3, u4, -, u5, u6⟩ := (C.EX.1.1 j hj).2
  obtain ⟨o1, o2, o3, o4, o5⟩ := ho
  have c0 : H[G.1 (145 + j)]? = some scr := by rw [hS.2.1 _ (Array.getElem?_eq_some_iff.mp u1).1 u6]; exact u1
  have he2 : (v_wl G S)[k2]? = some (G.1 k2, .inl (G.2.2.2.1, n2, .inl (S.1 k2))) := by rw [v_wl_at hk2]; simp [v_ce, hs2]
  have c1 : H[G.1 k2]? = some (vp_cell G.2.2.2.1 (n2, .inl (S.1 k2))) := hP k2 _ he2
  obtain ⟨u7, ka, hka, cma, hkka⟩ := u2
  obtain ⟨-, kb, hkb, cmb, hkkb⟩ := (C.K.2 1 _ rfl).1 n2 (fun q => .int (S.1 k2 q))
  obtain ⟨vm', Y', step⟩ := Y.arraycopy C.x C.ow (C.ts _ hw) (C.ts _ (v_r5 _ (List.mem_of_getElem? (i := 23) rfl))) (C.ts _ (v_r6 _ (List.mem_of_getElem? (i := 0) rfl))) (C.ts _ (v_r6 _ (List.mem_of_getElem? (i := 1) rfl))) (src := G.1 (145 + j)) (dst := G.1 k2) (cs := scr) (cd := vp_cell G.2.2.2.1 (n2, .inl (S.1 k2))) (srcPos := sp) (destPos := dp) (n := n) (by rw [hT]; exact c0) (by rw [hT]; exact c1) u7 (fun _ z => by cases z) u3 (fun z => by cases z) hka hkb hkka hkkb (by simp [refKind]) o1 o2 o3
    (by rw [v_nn sp o1, v_nn n o3]; have := u4; omega)
    (by rw [v_nn dp o2, v_nn n o3]; show ¬ _ > ((arrV G.2.2.2.1 n2 (fun q => .int (S.1 k2 q))).slots.size : Int); rw [arrV_size]; omega)
    (fun vm₁ _ q hq => by
      have e : scr.slots.getD (sp.toNatClampNeg + q) .null = .int ((v_sr j).2.getD (sp.toNatClampNeg + q) 0) := by
        rw [Array.getD_eq_getD_getElem?, u5 _ (by omega)]; rfl
      rw [e]
      exact ⟨rfl, trivial⟩)
    (g := F0 (v_m X) pc ls (.int n :: .int dp :: .ref (G.1 k2) :: .int sp :: .ref (G.1 (145 + j)) :: st)) rfl (h.1.trans C.ml.symm) (rest := st) rfl (by rw [C.b]; exact hd) (by rw [C.rr]; exact hR.1) (by rw [C.rr]; show 2 * 0 + _ + _ ≤ _; omega)
  have e1 : copied scr (vp_cell G.2.2.2.1 (n2, .inl (S.1 k2))) sp dp n = vp_cell G.2.2.2.1 (n2, .inl (va_cpy (fun q => (v_sr j).2.getD q 0) (S.1 k2) sp.toNatClampNeg dp.toNatClampNeg n.toNatClampNeg)) := va_copiedX (fun z => .int z) scr G.2.2.2.1 (fun q => (v_sr j).2.getD q 0) (S.1 k2) u5 o4
  rw [e1] at Y' step
  have hl : G.1 k2 < H.size := (Array.getElem?_eq_some_iff.mp c1).1
  have oq : ∀ q : Nat, q ≠ G.1 k2 → (H.setIfInBounds (G.1 k2) (vp_cell G.2.2.2.1 (n2, .inl (va_cpy (fun q => (v_sr j).2.getD q 0) (S.1 k2) sp.toNatClampNeg dp.toNatClampNeg n.toNatClampNeg))))[q]? = H[q]? := fun q hq => by simp [Array.getElem?_setIfInBounds, Ne.symm hq]
  have hP1 := hP.set (C.DD.wl S) he2 (e := .inl (G.2.2.2.1, n2, .inl (va_cpy (fun q => (v_sr j).2.getD q 0) (S.1 k2) sp.toNatClampNeg dp.toNatClampNeg n.toNatClampNeg))) (show (H.setIfInBounds (G.1 k2) _)[G.1 k2]? = some _ by simp [Array.getElem?_setIfInBounds, hl]) oq
  rw [v_wl_set (S := S) (S' := v_cs S j k2 sp.toNatClampNeg dp.toNatClampNeg n.toNatClampNeg) hk2 (fun a _ hn => v_ce_eq (v_row_cs hn) rfl) (by simp [v_ce, hs2, v_row_cs_self])] at hP1
  obtain ⟨t, a1, b1⟩ := kk _ _ ls hP1 ⟨by simp; exact hS.1, fun q g1 g2 => by
      rw [oq q (fun z => g2 (by rw [z]; exact C.DD.2 k2 hk2))]
      exact hS.2.1 q g1 g2, fun q hq => by
      rcases List.mem_append.mp hq with z | z
      · exact hS.2.2 q z
      · obtain ⟨zz, -, hz⟩ := List.mem_map.mp z
        rw [← hz]
        exact C.DD.2 k2 hk2⟩ h _ (by rw [← hT]; rfl) Y'
  exact ⟨t, step t a1, b1⟩
theorem V_gets (C : v_Cx X G cc own nL R) {i : Nat} (j : Nat) (hj : j < 3) (hw : Cond.fieldLink own i "HalfAccuser" (v_sr j).1 "[I" ∈ wsL_law) (hd : decode cc pc = .ok (.getstatic i, 3)) (kk : VJ X G S (pc + 3) lv (.ref (G.1 (145 + j)) :: st)) : VJ X G S pc lv st := fun H locs ls hP hS h => va_gets C.x C.b (C.EX.1.1 j hj).1 hS C.ow (C.ts _ hw) (fun _ z => z) hd (kk H locs ls hP hS h)
theorem V_getsN (C : v_Cx X G cc own nL R) {i : Nat} {host : String} (j : Nat) (hj : j < 3) (hw : (own, i, "HalfAccuser", (v_sr j).1, "[I", host) ∈ v_nestF) (hd : decode cc pc = .ok (.getstatic i, 3)) (kk : VJ X G S (pc + 3) lv (.ref (G.1 (145 + j)) :: st)) : VJ X G S pc lv st := fun H locs ls hP hS h => va_getsN C.x C.b (C.EX.1.1 j hj).1 hS C.ow (va_Nw.use rfl (C.EX.2.2 _ hw)) (fun _ z => z) hd (kk H locs ls hP hS h)
theorem V_tald (C : v_Cx X G cc own nL R) (j : Nat) (hj : j < 3) {x : Int32} (hi : vp_in x 4) (hd : decode cc pc = .ok (.iaload, 1)) (kk : VJ X G S (pc + 1) lv (.int ((v_sr j).2.getD x.toNatClampNeg 0) :: st)) : VJ X G S pc lv (.int x :: .ref (G.1 (145 + j)) :: st) := fun H locs ls hP hS h => va_ti C.x C.b (C.EX.1.1 j hj).2 hS hi rfl hd (kk H locs ls hP hS h)
theorem V_tlen (C : v_Cx X G cc own nL R) (j : Nat) (hj : j < 3) (hd : decode cc pc = .ok (.arraylength, 1)) (kk : VJ X G S (pc + 1) lv (.int 4 :: st)) : VJ X G S pc lv (.ref (G.1 (145 + j)) :: st) := fun H locs ls hP hS h => va_tlen C.x C.b (C.EX.1.1 j hj).2 hS rfl hd (kk H locs ls hP hS h)
/-- an answer that is a cell of the picture -/
def v_Qr (G : vG) (k : Nat) (post : vSt → Prop) : Array Value → State → Outcome → State → Prop := va_Qr post (fun S a t => a = G.1 k ∧ v_WW G S t) (v_A G)
theorem V_aret (C : v_Cx X G cc own nL R) {post : vSt → Prop} {cn : String} (k : Nat) (D : v_Rx X G (v_Qr G k post) (some (.object cn))) (hd : decode cc pc = .ok (.areturn, 1)) (hp : post S) : VJ X G S pc lv [.ref (G.1 k)] := fun H locs ls hP hS h => by
  have key : W (v_p X) (v_l X) (v_e X) (v_R X) (v_s X) (v_m X) (v_args X) (v_below X) (v_meth X) (v_c X) H locs 0 0 (MQ (v_below X) (v_Qr G k post) (v_args X) (v_s X) 0 0 (v_A G)) (F0 (v_m X) pc ls [.ref (G.1 k)]) := W.aret (Qc := v_Qr G k post) (free := v_A G) (v := .ref (G.1 k)) (ls := ls) C.x C.b D.2.2.2.2.1 (Or.inl ⟨cn, rfl⟩) (Or.inr ⟨_, rfl⟩) (fun t ht hW => ⟨⟨S, G.1 k, rfl, hp, rfl, v_WW.to hP C.K C.DD C.EX hS ht hW⟩, by rw [← D.2.2.2.1]; exact hS.F ht⟩) (by rw [← D.2.2.2.1]; exact hS.2.2) hd D.2.2.2.2.2
  show v_W X H locs _
  unfold v_W
  rw [D.1, D.2.1, D.2.2.1]; exact key
theorem V_callVr (C : v_Cx X G cc own nL R) {y : MethodName} {bytes : ByteArray} {maxL fr lo i n kr : Nat} {ret : Option FieldType} {av : List Value} {post : vSt → Prop} (hM : Met (v_l X) y (v_ws y bytes maxL ret) (v_rm fr lo) (v_Pc G av S) (v_Qr G kr post) 0 0 (v_A G)) {Cn : String} {N : Nat} {T : u_T} (k ci : Nat) (hk : k < 145) (hs : (v_sh k).1 = ci) (hc : ci < 12) (hcl : vwCl[ci]? = some (Cn, T, N)) {As rest : List Value} (KV : v_KV Cn y bytes maxL ret n) (hw : Cond.methodLink own i y ∈ wsL_law) (hav : av = .ref (G.1 k) :: As) (hst : st = As.reverse ++ .ref (G.1 k) :: rest) (hn : As.length = n) (hrest : (rest.map fun v => v.category).sum ≤ 8) (hR : (v_rm fr lo).frames + 1 ≤ R.frames ∧ 8 + (maxL + 11) + (v_rm fr lo).locals ≤ R.locals) (hd : decode cc pc = .ok (.invokevirtual i, 3)) (kk : ∀ S1, post S1 → VJ X G S1 (pc + 3) lv (.ref (G.1 kr) :: rest)) : VJ X G S pc lv st := fun H locs ls hP hS h => by
  have hr : va_Run (v_p X) (v_l X) (v_e X) (v_R X) (v_s X) (v_m X) (v_args X) (v_below X) (v_meth X) (v_c X) H locs (v_k1 X) (v_k2 X) 0 0 (F0 (v_m X) pc ls st) rest (v_Qr G kr post (Value.ref (G.1 k) :: As).toArray) (v_A G) := va_runV (As := As) (rest := rest) C.fix hM (cwV n C.ts (ws' := wsL_law) (v_goodV hw KV) rfl rfl rfl KV.2.2.2.2 (by rw [C.rr]; exact hR)) ⟨v_blind, (va_recv (D := G.2.1) (ci := ci) (q := (Cn, T, N)) (fs := v_fs G.1 S k ci) (q0 := k) C.K hP hcl (by rw [v_wl_at hk]; simp [v_ce, hs, hc])), (fun U hU hW => ⟨hav ▸ rfl, v_WW.to hP C.K C.DD C.EX hS hU hW⟩)⟩ rfl hn h.1 hst (lv_room hrest) hd ⟨C.k1, C.k2⟩
  exact va_callr hr hS (fun q _ hq => C.sub q hq) C.sub (fun S1 a t H1 locs1 ht _ hp hB _ _ hS1 => by obtain ⟨rfl, hB⟩ := hB; exact kk S1 hp H1 locs1 ls (by have h1 := hB.1; rwa [ht] at h1) hS1 h)
theorem V_lookup (C : v_Cx X G cc own nL R) {dflt : Int} {ps : Array (Int × Int)} {len : Nat} {x : Int32} (hd : decode cc pc = .ok (.lookupswitch dflt ps, len)) (hp : (ps.toList.zip (ps.toList.drop 1)).all (fun (a, next) => a.1 < next.1) = true) (tgt : Nat) (off : Int) (ho : Op.lookupswitch.offset ps.toList dflt x.toInt = off) (ht : (pc : Int) + off = (tgt : Int)) (kk : VJ X G S tgt lv st) : VJ X G S pc lv (.int x :: st) := fun H locs ls hP hS h => lv_lookup C.x C.b hd hp ho ht (kk H locs ls hP hS h)
theorem V_aald2 (C : v_Cx X G cc own nL R) (k n : Nat) {i : Int32} {m : Nat} (hk : k < 145) (hs : v_sh k = (15, n)) (hi : vp_in i n) (hm : m = 77 + 22 * i.toNatClampNeg) (hd : decode cc pc = .ok (.aaload, 1)) (kk : VJ X G S (pc + 1) lv (.ref (G.1 m) :: st)) : VJ X G S pc lv (.int i :: .ref (G.1 k) :: st) := by
  subst hm
  exact V_aald C k n hk hs hi hd kk
end VS
theorem v_mkC {i : Int32} {m : Nat} (hi : vp_in i 3) (hm : m = 77 + 22 * i.toNatClampNeg) : v_isC m := by
  have h : i.toNatClampNeg < 3 := Nat.not_le.mp fun q => hi (Or.inr q)
  unfold v_isC
  omega
theorem v_ine {x : Int32} {n : Int} (v : Int32) (h : ¬ x = v) (hv : v.toInt = n) : ¬ x.toInt = n := fun e => h (Int32.toInt_inj.mp (e.trans hv.symm))
theorem v_lk4 {a b c d oa ob oc od dd k : Int} (ha : ¬ k = a) (hb : ¬ k = b) (hc : ¬ k = c) (hd : ¬ k = d) : Op.lookupswitch.offset [(a, oa), (b, ob), (c, oc), (d, od)] dd k = dd := by
  simp [Op.lookupswitch.offset_cons, Op.lookupswitch.offset_nil, ha, hb, hc, hd, Ne.symm ha, Ne.symm hb, Ne.symm hc, Ne.symm hd]
