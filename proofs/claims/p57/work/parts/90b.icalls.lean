/-! calls in growing worlds -/
def n_B (G : vG) (ws : va_W) (sz : Nat) (U : State) : Prop := U.heap.size = sz ∧ va_P G.2.1 vwCl ws U.heap ∧ va_K G.2.1 vwCl (v_tys G) U ∧ va_D (fun _ => True) ws ∧ v_EX G (va_A ws sz) U U.heap ∧ va_AO "HalfAccuser$City" U
def n_Pc (G : vG) (av : List Value) (ws : va_W) (sz : Nat) : Array Value → State → Prop := va_Pc av (n_B G ws sz)
def n_Qv (G : vG) (ws : va_W) (sz : Nat) (post : va_W → Prop) : Array Value → State → Outcome → State → Prop := va_Qv post (fun w t => va_P G.2.1 vwCl w t.heap ∧ va_D (va_A ws sz) w) (va_A ws sz)
def n_Rx (X : vX) (Qc : Array Value → State → Outcome → State → Prop) (mc ms : Nat) (A : Nat → Prop) : Prop := v_Q X = MQ (v_below X) Qc (v_args X) (v_s X) mc ms A ∧ v_AA X = A ∧ (v_meth X).sig.returnType = none ∧ (v_meth X).locks = false
theorem n_blind {G : vG} {av : List Value} {ws : va_W} {sz : Nat} : FrameBlind (n_Pc G av ws sz) := by
  intro a U g mk h
  obtain ⟨h1, h2, h3, h4, h6, h5, h7⟩ := h
  exact ⟨h1, h2, h3, va_K.moved (u := U) (U := U.calling g mk a) (Vm.Alike.refl U.vm) h4, h6, ⟨⟨fun i hi => ⟨va_Z.moved (u := U) (U := U.calling g mk a) (Vm.Alike.refl U.vm) (h5.1.1 i hi).1, va_T.moved (u := U) (U := U.calling g mk a) (Vm.Alike.refl U.vm) (h5.1.1 i hi).2⟩, fun q hq => vk_R.same (u := U) (U := U.calling g mk a) rfl (h5.1.2.1 q hq), vk_S.moved (u := U) (U := U.calling g mk a) (Vm.Alike.refl U.vm) h5.1.2.2.1, va_Z.moved (u := U) (U := U.calling g mk a) (Vm.Alike.refl U.vm) h5.1.2.2.2.1, va_Zq.moved (u := U) (U := U.calling g mk a) (Vm.Alike.refl U.vm) h5.1.2.2.2.2.1, va_T.moved (u := U) (U := U.calling g mk a) (Vm.Alike.refl U.vm) h5.1.2.2.2.2.2⟩, ⟨fun q hq => va_Nw.same rfl (u := U) (U := U.calling g mk a) rfl (h5.2.1 q hq), fun q hq => va_Nw.same rfl (u := U) (U := U.calling g mk a) rfl (h5.2.2 q hq)⟩⟩, va_AO.moved (u := U) (U := U.calling g mk a) (Vm.Alike.refl U.vm) h7⟩
theorem n_start {G : vG} {l : Launch} {y : MethodName} {bytes : ByteArray} {maxL fr lo mc ms sz : Nat} {av : List Value} {ws : va_W} {post : va_W → Prop} (hy : plainName y.cls = true) (hlen : (lg_sl av).length ≤ maxL) (h : ∀ X, v_l X = l → (v_meth X).name = y.name → n_Cx X G bytes y.cls maxL (n_rm fr lo mc ms) → n_Rx X (n_Qv G ws sz post) mc ms (va_A ws sz) → NJ X G ws 0 0 0 (lv_args 0 av) []) : Met l y (v_ws y bytes maxL none) (n_rm fr lo mc ms) (n_Pc G av ws sz) (n_Qv G ws sz post) mc ms (va_A ws sz) := by
  refine Met.ofW (cc := bytes) (maxL := maxL) (ret := none) hy rfl ?_
  intro p e s m args below meth c s₁ B hml hv
  obtain ⟨rfl, hsz, hP, hK, hD, hE, hO⟩ := hv
  subst hsz
  have hts := atoms_spec (ws := v_ws y bytes maxL none) B.pre
  have hl := lv_entry av hlen
  rw [lg_entry_eq]
  exact h (p, l, e, (headSpec (v_ws y bytes maxL none) (n_rm fr lo mc ms)).room, s, m, av.toArray, below, meth, c, MQ below (n_Qv G ws s.heap.size post) av.toArray s mc ms (va_A ws s.heap.size), va_A ws s.heap.size, maxL, 0, 0) rfl (name_of_methodNamed B.named B.method).1
    ⟨B.exec, B.bytes, hml, rfl, findClass_of_methodNamed B.named, fun w hw => hts w (List.mem_cons_of_mem _ hw), hK, fun q hq => Or.inr hq, hE, rfl, hO⟩ ⟨rfl, rfl, B.returns, B.notSynchronized⟩ s.heap [] _ hP hD.self va_S.rf hl
theorem n_join {A : Nat → Prop} {D : va_G} {cl : List vw_C} {wr wc w1 : va_W} {H H1 : Heap} (hP : va_P D cl (wr ++ wc) H) (hD : va_D A (wr ++ wc)) (hF : ∀ q, va_A wc H.size q → A q) (hk : ∀ q : Nat, q < H.size → ¬ va_A wc H.size q → H1[q]? = H[q]?) (hP1 : va_P D cl w1 H1) (hD1 : va_D (va_A wc H.size) w1) : va_P D cl (wr ++ w1) H1 ∧ va_D A (wr ++ w1) := by
  have left : ∀ (k : Nat) (q : Nat × va_E), wr[k]? = some q → (wr ++ wc)[k]? = some q := fun k q hq => by
    rw [List.getElem?_append_left (List.getElem?_eq_some_iff.mp hq).1]; exact hq
  have right : ∀ (k : Nat) (q : Nat × va_E), wc[k]? = some q → (wr ++ wc)[wr.length + k]? = some q := fun k q hq => by
    rw [List.getElem?_append_right (by omega), show wr.length + k - wr.length = k by omega]; exact hq
  have apart : ∀ (k : Nat) (q : Nat × va_E), wr[k]? = some q → q.1 < H.size ∧ ¬ va_A wc H.size q.1 := by
    intro k q hq
    have hl := (hP k q (left k q hq)).lt
    refine ⟨hl, fun h => ?_⟩
    rcases h with ⟨k2, e, h⟩ | h
    · have := hD.1 k (wr.length + k2) q (q.1, e) (left k q hq) (right k2 _ h) rfl
      have := (List.getElem?_eq_some_iff.mp hq).1
      omega
    · omega
  refine ⟨va_P.app (fun k q hq => ?_) hP1, va_D.app ⟨fun i j x y hi hj e => hD.1 i j x y (left i x hi) (left j y hj) e, fun k q hq => hD.2 k q (left k q hq)⟩ (hD1.weaken (fun k q _ h => hF q.1 h)) (fun i j x y hx hy hxy => ?_)⟩
  · obtain ⟨g1, g2⟩ := apart k q hq
    exact (hP k q (left k q hq)).kept (hk q.1 g1 g2)
  · exact (apart i x hx).2 (by rw [hxy]; exact hD1.2 j y hy)
theorem n_right {A : Nat → Prop} {D : va_G} {cl : List vw_C} {wr wc : va_W} {H : Heap} (hP : va_P D cl (wr ++ wc) H) (hD : va_D A (wr ++ wc)) : va_P D cl wc H ∧ va_D A wc := by
  have right : ∀ (k : Nat) (q : Nat × va_E), wc[k]? = some q → (wr ++ wc)[wr.length + k]? = some q := fun k q hq => by
    rw [List.getElem?_append_right (by omega), show wr.length + k - wr.length = k by omega]; exact hq
  refine ⟨fun k q hq => hP _ q (right k q hq), fun i j x y hi hj e => ?_, fun k q hq => hD.2 _ q (right k q hq)⟩
  have := hD.1 _ _ x y (right i x hi) (right j y hj) e
  omega
/-- a constructor's, a static method's words -/
def n_KI (y : MethodName) (bytes : ByteArray) (maxL n : Nat) : Prop := Cond.instanceMethod y ∈ wsL_law ∧ Cond.initialized y.cls ∈ wsL_law ∧ Cond.code y bytes maxL none ∈ wsL_law ∧ y.name = "<init>" ∧ (y.cls ≠ "java/lang/invoke/MethodHandle" ∧ y.cls ≠ "java/lang/invoke/VarHandle" ∧ (parseMethodDescriptor y.desc).map (fun d => d.parameters.length) = some n)
section NC
variable {X : vX} {G : vG} {cc : ByteArray} {own : String} {nL : Nat} {R : Room} {ws : va_W} {k1 k2 pc : Nat} {lv lv' : List (Nat × Value)} {st : List Value}
theorem N_call (C : n_Cx X G cc own nL R) {wr wc : va_W} {av : List Value} {post : va_W → Prop} {mc ms : Nat} {rest : List Value} (hws : ws = wr ++ wc) (hst : ∀ ls : Array Slot, lv_has ls (v_n X) lv → ls.size = v_n X) (run : ∀ (H : Heap) (locs : List Loc) (ls : Array Slot), va_P G.2.1 vwCl wc H → ls.size = v_n X → (∀ U : State, U.heap = H → (v_s X).WarmedH U.vm → n_Pc G av wc H.size av.toArray U) → va_Run (v_p X) (v_l X) (v_e X) (v_R X) (v_s X) (v_m X) (v_args X) (v_below X) (v_meth X) (v_c X) H locs k1 k2 mc ms (F0 (v_m X) pc ls st) rest (n_Qv G wc H.size post av.toArray) (va_A wc H.size)) (kk : ∀ w1, post w1 → NJ X G (wr ++ w1) (k1 + mc) (k2 + ms) (pc + 3) lv rest) : NJ X G ws k1 k2 pc lv st := by
  subst hws
  intro H locs ls hP hD hS h
  obtain ⟨hPc, hDc⟩ := n_right hP hD
  have hF : ∀ q, va_A wc H.size q → v_AA X q := by
    rintro q (⟨k, e, hk⟩ | hq)
    · exact hDc.2 k (q, e) hk
    · exact C.hA q (Nat.le_trans hS.1 hq)
  have hr := run H locs ls hPc (hst ls h) (fun U hU hW => ⟨rfl, by rw [hU], by rw [hU]; exact hPc, va_K.moved hW.alike C.K, hDc.weaken (fun _ _ _ _ => trivial), by rw [hU]; exact ((C.EX.kept (fun a h1 h2 => hS.2.1 a h1 h2)).warm hW).narrow hF, va_AO.moved hW.alike C.ao⟩)
  exact va_callv hr hS (fun q _ hq => hF q hq) hF (fun w1 t H1 locs1 ht _ hp hB _ hk hS1 => by
    obtain ⟨hP1, hD1⟩ := hB
    rw [ht] at hP1
    obtain ⟨hP2, hD2⟩ := n_join hP hD hF hk hP1 hD1
    exact kk w1 hp H1 locs1 ls hP2 hD2 hS1 h)
theorem N_callI (C : n_Cx X G cc own nL R) {y : MethodName} {bytes : ByteArray} {maxL fr lo mc ms i n a : Nat} {wr wc : va_W} {post : va_W → Prop} {As rest : List Value} (hM : ∀ sz, Met (v_l X) y (v_ws y bytes maxL none) (n_rm fr lo mc ms) (n_Pc G (.ref a :: As) wc sz) (n_Qv G wc sz post) mc ms (va_A wc sz)) (KI : n_KI y bytes maxL n) (hw : Cond.methodLink own i y ∈ wsL_law) (hst : st = As.reverse ++ .ref a :: rest) (hn : As.length = n) (hrest : (rest.map fun v => v.category).sum ≤ 8) (hR : fr + 1 ≤ R.frames ∧ 8 + (maxL + 11) + lo ≤ R.locals) (hc : k1 + mc ≤ R.cells ∧ k2 + ms ≤ R.slots) (hd : decode cc pc = .ok (.invokespecial i, 3)) (hws : ws = wr ++ wc) (kk : ∀ w1, post w1 → NJ X G (wr ++ w1) (k1 + mc) (k2 + ms) (pc + 3) lv rest) : NJ X G ws k1 k2 pc lv st :=
  N_call C hws (fun ls h => h.1) (fun H locs ls hPc hsz pre => va_runI (As := As) (rest := rest) C.fix (hM H.size) (cwI n C.ts (ws' := wsL_law) (v_good_ws KI.2.2.1) rfl rfl rfl (C.ts _ KI.2.1) (C.ts _ hw) (C.ts _ KI.1) KI.2.2.2.1 KI.2.2.2.2 (by rw [C.rr]; exact hR)) ⟨n_blind, pre⟩ rfl hn hsz hst (lv_room hrest) hd ⟨by rw [C.rr]; exact hc.1, by rw [C.rr]; exact hc.2⟩) kk
theorem N_callIN (C : n_Cx X G cc own nL R) {y : MethodName} {bytes : ByteArray} {maxL fr lo mc ms i n a : Nat} {host : String} {wr wc : va_W} {post : va_W → Prop} {As rest : List Value} (hM : ∀ sz, Met (v_l X) y (v_ws y bytes maxL none) (n_rm fr lo mc ms) (n_Pc G (.ref a :: As) wc sz) (n_Qv G wc sz post) mc ms (va_A wc sz)) (KI : n_KI y bytes maxL n) (hw : (own, i, y, host) ∈ v_nestM) (hst : st = As.reverse ++ .ref a :: rest) (hn : As.length = n) (hrest : (rest.map fun v => v.category).sum ≤ 8) (hR : fr + 1 ≤ R.frames ∧ 8 + (maxL + 11) + lo ≤ R.locals) (hc : k1 + mc ≤ R.cells ∧ k2 + ms ≤ R.slots) (hd : decode cc pc = .ok (.invokespecial i, 3)) (hws : ws = wr ++ wc) (kk : ∀ w1, post w1 → NJ X G (wr ++ w1) (k1 + mc) (k2 + ms) (pc + 3) lv rest) : NJ X G ws k1 k2 pc lv st :=
  N_call C hws (fun ls h => h.1) (fun H locs ls hPc hsz pre => va_runIN (As := As) (rest := rest) C.fix (hM H.size) ⟨va_cnB n C.ts (ws' := wsL_law) (v_good_ws KI.2.2.1) rfl rfl rfl (C.EX.2.1 _ hw) (C.ts _ KI.2.1) KI.2.2.2.2 (by rw [C.rr]; exact hR), KI.2.2.2.1, C.ts _ KI.1⟩ ⟨n_blind, pre⟩ rfl hn hsz hst (lv_room hrest) hd ⟨by rw [C.rr]; exact hc.1, by rw [C.rr]; exact hc.2⟩) kk
theorem N_callV (C : n_Cx X G cc own nL R) {y : MethodName} {bytes : ByteArray} {maxL fr lo mc ms i n a ci : Nat} {Cn : String} {T : u_T} {N : Nat} {fs : List Value} (q0 : Nat) {wr wc : va_W} {post : va_W → Prop} {As rest : List Value} (hM : ∀ sz, Met (v_l X) y (v_ws y bytes maxL none) (n_rm fr lo mc ms) (n_Pc G (.ref a :: As) wc sz) (n_Qv G wc sz post) mc ms (va_A wc sz)) (he : wc[q0]? = some (a, .inr (ci, fs))) (hcl : vwCl[ci]? = some (Cn, T, N)) (KV : v_KV Cn y bytes maxL none n) (hw : Cond.methodLink own i y ∈ wsL_law) (hst : st = As.reverse ++ .ref a :: rest) (hn : As.length = n) (hrest : (rest.map fun v => v.category).sum ≤ 8) (hR : fr + 1 ≤ R.frames ∧ 8 + (maxL + 11) + lo ≤ R.locals) (hc : k1 + mc ≤ R.cells ∧ k2 + ms ≤ R.slots) (hd : decode cc pc = .ok (.invokevirtual i, 3)) (hws : ws = wr ++ wc) (kk : ∀ w1, post w1 → NJ X G (wr ++ w1) (k1 + mc) (k2 + ms) (pc + 3) lv rest) : NJ X G ws k1 k2 pc lv st :=
  N_call C hws (fun ls h => h.1) (fun H locs ls hPc hsz pre => va_runV (As := As) (rest := rest) C.fix (hM H.size) (cwV n C.ts (ws' := wsL_law) (v_goodV hw KV) rfl rfl rfl KV.2.2.2.2 (by rw [C.rr]; exact hR)) ⟨n_blind, va_recv C.K hPc hcl he, pre⟩ rfl hn hsz hst (lv_room hrest) hd ⟨by rw [C.rr]; exact hc.1, by rw [C.rr]; exact hc.2⟩) kk
theorem N_callS (C : n_Cx X G cc own nL R) {y : MethodName} {bytes : ByteArray} {maxL fr lo mc ms i n : Nat} {wr wc : va_W} {post : va_W → Prop} {As rest : List Value} (hM : ∀ sz, Met (v_l X) y (v_ws y bytes maxL none) (n_rm fr lo mc ms) (n_Pc G As wc sz) (n_Qv G wc sz post) mc ms (va_A wc sz)) (KS : v_KS y bytes maxL none n) (hw : Cond.methodLink own i y ∈ wsL_law) (hst : st = As.reverse ++ rest) (hn : As.length = n) (hrest : (rest.map fun v => v.category).sum ≤ 8) (hR : fr + 1 ≤ R.frames ∧ 8 + (maxL + 11) + lo ≤ R.locals) (hc : k1 + mc ≤ R.cells ∧ k2 + ms ≤ R.slots) (hd : decode cc pc = .ok (.invokestatic i, 3)) (hws : ws = wr ++ wc) (kk : ∀ w1, post w1 → NJ X G (wr ++ w1) (k1 + mc) (k2 + ms) (pc + 3) lv rest) : NJ X G ws k1 k2 pc lv st :=
  N_call C hws (fun ls h => h.1) (fun H locs ls hPc hsz pre => va_runS (As := As) (rest := rest) C.fix (hM H.size) (va_cwS n C.ts (ws' := wsL_law) (v_goodS hw KS) rfl rfl rfl KS.2.2.2 (by rw [C.rr]; exact hR)) ⟨n_blind, pre⟩ rfl hn hsz hst (lv_room hrest) hd ⟨by rw [C.rr]; exact hc.1, by rw [C.rr]; exact hc.2⟩) kk
theorem N_callSN (C : n_Cx X G cc own nL R) {y : MethodName} {bytes : ByteArray} {maxL fr lo mc ms i n : Nat} {host : String} {wr wc : va_W} {post : va_W → Prop} {As rest : List Value} (hM : ∀ sz, Met (v_l X) y (v_ws y bytes maxL none) (n_rm fr lo mc ms) (n_Pc G As wc sz) (n_Qv G wc sz post) mc ms (va_A wc sz)) (KS : v_KS y bytes maxL none n) (hw : (own, i, y, host) ∈ v_nestM) (hst : st = As.reverse ++ rest) (hn : As.length = n) (hrest : (rest.map fun v => v.category).sum ≤ 8) (hR : fr + 1 ≤ R.frames ∧ 8 + (maxL + 11) + lo ≤ R.locals) (hc : k1 + mc ≤ R.cells ∧ k2 + ms ≤ R.slots) (hd : decode cc pc = .ok (.invokestatic i, 3)) (hws : ws = wr ++ wc) (kk : ∀ w1, post w1 → NJ X G (wr ++ w1) (k1 + mc) (k2 + ms) (pc + 3) lv rest) : NJ X G ws k1 k2 pc lv st :=
  N_call C hws (fun ls h => h.1) (fun H locs ls hPc hsz pre => va_runSN (As := As) (rest := rest) C.fix (hM H.size) ⟨va_cnB n C.ts (ws' := wsL_law) (v_good_ws KS.2.2.1) rfl rfl rfl (C.EX.2.1 _ hw) (C.ts _ KS.2.1) KS.2.2.2 (by rw [C.rr]; exact hR), C.ts _ KS.1, trivial⟩ ⟨n_blind, pre⟩ rfl hn hsz hst (lv_room hrest) hd ⟨by rw [C.rr]; exact hc.1, by rw [C.rr]; exact hc.2⟩) kk
theorem N_vret (C : n_Cx X G cc own nL R) {ws0 : va_W} {sz mc ms : Nat} {post : va_W → Prop} (D : n_Rx X (n_Qv G ws0 sz post) mc ms (va_A ws0 sz)) (h1 : k1 ≤ mc) (h2 : k2 ≤ ms) (hd : decode cc pc = .ok (.return_, 1)) (hp : post ws) : NJ X G ws k1 k2 pc lv [] := fun H locs ls hP hD hS h => by
  have key : W (v_p X) (v_l X) (v_e X) (v_R X) (v_s X) (v_m X) (v_args X) (v_below X) (v_meth X) (v_c X) H locs mc ms (MQ (v_below X) (n_Qv G ws0 sz post) (v_args X) (v_s X) mc ms (va_A ws0 sz)) (F0 (v_m X) pc ls []) := W.vret (Qc := n_Qv G ws0 sz post) (free := va_A ws0 sz) C.x C.b D.2.2.1 (fun t ht hW => ⟨⟨ws, rfl, hp, by rw [ht]; exact hP, by rw [← D.2.1]; exact hD⟩, by rw [← D.2.1]; exact hS.F ht⟩) (by rw [← D.2.1]; exact hS.2.2) hd D.2.2.2
  show W _ _ _ _ _ _ _ _ _ _ _ _ _ _ (v_Q X) _
  rw [D.1]
  exact W.widen h1 h2 key
theorem N_getsN (C : n_Cx X G cc own nL R) {i : Nat} {host : String} (j : Nat) (hj : j < 3) (hw : (own, i, "HalfAccuser", (v_sr j).1, "[I", host) ∈ v_nestF) (hd : decode cc pc = .ok (.getstatic i, 3)) (kk : NJ X G ws k1 k2 (pc + 3) lv (.ref (G.1 (145 + j)) :: st)) : NJ X G ws k1 k2 pc lv st := fun H locs ls hP hD hS h => va_getsN C.x C.b (C.EX.1.1 j hj).1 hS C.ow (va_Nw.use rfl (C.EX.2.2 _ hw)) (fun _ z => z) hd (kk H locs ls hP hD hS h)
theorem N_tlen (C : n_Cx X G cc own nL R) (j : Nat) (hj : j < 3) (hd : decode cc pc = .ok (.arraylength, 1)) (kk : NJ X G ws k1 k2 (pc + 1) lv (.int 4 :: st)) : NJ X G ws k1 k2 pc lv (.ref (G.1 (145 + j)) :: st) := fun H locs ls hP hD hS h => va_tlen C.x C.b (C.EX.1.1 j hj).2 hS rfl hd (kk H locs ls hP hD hS h)
end NC
