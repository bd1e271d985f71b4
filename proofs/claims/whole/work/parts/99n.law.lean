/-! the law from its entry to its loop -/
theorem N_astore_n {X : vX} {G : vG} {cc : ByteArray} {own : String} {nL : Nat} {R : Room} {ws : va_W} {k1 k2 pc : Nat} {lv lv' : List (Nat × Value)} {st : List Value} (C : n_Cx X G cc own nL R) (ks : List Nat) {k : Fin 4} {i : Nat} {x : Nat} (hd : decode cc pc = .ok (.astore_n k, 1)) (hi : (k : Nat) = i) (hn : i < nL) (hl : lv_pick ((i, Value.ref x) :: lv.filter (fun q => !(q.1 == i) && !(q.1 + 1 == i && q.2.category == 2))) ks = lv') (kk : NJ X G ws k1 k2 (pc + 1) lv' st) : NJ X G ws k1 k2 pc lv (.ref x :: st) := fun H locs ls hP hD hS h => lv_astore_n C.x C.b hd hi h (by rw [C.nl]; exact hn) rfl (fun ls h => kk H locs ls hP hD hS (lv_sub h ks hl))
theorem kl_9 : Cond.methodLink RL 9 yX10_init ∈ wsL_law := v_r1 _ (List.mem_of_getElem? (i := 7) rfl)
theorem kl_12 : Cond.methodLink RL 12 yX11_init ∈ wsL_law := v_r8 _ (List.mem_of_getElem? (i := 12) rfl)
theorem kl_7 : Cond.classLink RL 7 RX10 ∈ wsL_law := v_r1 _ (List.mem_of_getElem? (i := 0) rfl)
theorem kl_10 : Cond.classLink RL 10 RX11 ∈ wsL_law := v_r1 _ (List.mem_of_getElem? (i := 3) rfl)
theorem kl_i10 : Cond.instantiable RX10 19 ∈ wsL_law := v_r1 _ (List.mem_of_getElem? (i := 1) rfl)
theorem kl_i11 : Cond.instantiable RX11 41 ∈ wsL_law := v_r1 _ (List.mem_of_getElem? (i := 4) rfl)
theorem kl_z10 : Cond.initialized RX10 ∈ wsL_law := v_r1 _ (List.mem_of_getElem? (i := 2) rfl)
theorem kl_z11 : Cond.initialized RX11 ∈ wsL_law := v_r1 _ (List.mem_of_getElem? (i := 5) rfl)
set_option maxHeartbeats 4000000 in
set_option maxRecDepth 100000 in
theorem law_go {X : vX} {G : vG} (C : n_Cx X G cL_law RL 4 room_1) {bb L : Nat} {xs : Nat → Int32} (hL : L ≤ 3072) (hX : va_X bb L xs (v_s X) (v_s X).heap) (hbl : bb < (v_s X).heap.size) (hbA : ¬ v_AA X bb) (D : ∀ k1 k2 : Nat, k1 ≤ 600000 → k2 ≤ 7302250 → ∀ H locs ls, va_S (v_AA X) (v_s X).heap H locs → n_W X H locs k1 k2 (F0 (v_m X) 1946 ls [.int 1])) : NJ X G [] 0 0 0 [(0, .ref bb)] [] := by
  refine N_new (ci := 10) (T := TX10) (N := 19) (ty := tyX10) (fs := [.null, .null, .null, .null, .null, .null, .null, .null, .null, .null, .null, .null, .int 0, .int 0, .int 0, .int 0, .int 0, .long 0, .long 0]) C inlX10 tyX10_ok kl_7 kl_i10 kl_z10 rfl (by decide) (Nat.le_of_ble_eq_true rfl) (Nat.le_of_ble_eq_true rfl) dL_law_0 (fun q => ?_)
  refine N_ws (ws' := [(q, .inr (10, [.null, .null, .null, .null, .null, .null, .null, .null, .null, .null, .null, .null, .int 0, .int 0, .int 0, .int 0, .int 0, .long 0, .long 0]))]) rfl ?_
  refine N_dup C dL_law_3 rfl ?_
  refine N_callI (wr := []) (wc := [(q, .inr (10, [.null, .null, .null, .null, .null, .null, .null, .null, .null, .null, .null, .null, .int 0, .int 0, .int 0, .int 0, .int 0, .long 0, .long 0]))]) (mc := 142) (ms := 6886) (As := []) (rest := [.ref q]) (post := fun w => ∃ ad : Nat → Nat, (∀ i, ad (155 + i) = G.1 (155 + i)) ∧ ad 0 = q ∧ w = n_wl (ad, G.2)) C (fun sz => i_X10_init (v_l X) G q sz _ (fun ad h1 h2 => ⟨ad, h1, h2, rfl⟩)) KI_X10_init kl_9 rfl rfl (Nat.le_of_ble_eq_true rfl) ⟨Nat.le_of_ble_eq_true rfl, Nat.le_of_ble_eq_true rfl⟩ ⟨Nat.le_of_ble_eq_true rfl, Nat.le_of_ble_eq_true rfl⟩ dL_law_4 rfl ?_
  rintro _ ⟨ad, had, rfl, rfl⟩
  refine N_astore_n (lv' := [(0, .ref bb), (1, .ref (ad 0))]) C [1, 0] dL_law_7 rfl (by decide) rfl ?_
  refine N_new (ci := 11) (T := TX11) (N := 41) (ty := tyX11) (fs := [.int 0, .int 0, .long 0, .long 0, .null, .null, .null, .null, .int 0, .int 0, .int 0, .int 0, .int 0, .int 0, .int 0, .int 0, .int 0, .int 0, .int 0, .long 0, .null, .null, .null, .int 0, .int 0, .int 0, .int 0, .null, .null, .int 0, .null, .int 0, .null, .int 0, .int 0, .int 0, .int 0, .int 0, .int 0, .int 0, .int 0]) C inlX11 tyX11_ok kl_10 kl_i11 kl_z11 rfl (by decide) (Nat.le_of_ble_eq_true rfl) (Nat.le_of_ble_eq_true rfl) dL_law_8 (fun q => ?_)
  refine N_permL (ws' := [(q, .inr (11, [.int 0, .int 0, .long 0, .long 0, .null, .null, .null, .null, .int 0, .int 0, .int 0, .int 0, .int 0, .int 0, .int 0, .int 0, .int 0, .int 0, .int 0, .long 0, .null, .null, .null, .int 0, .int 0, .int 0, .int 0, .null, .null, .int 0, .null, .int 0, .null, .int 0, .int 0, .int 0, .int 0, .int 0, .int 0, .int 0, .int 0]))] ++ n_wl (ad, G.2)) List.perm_append_comm ?_
  refine N_dup C dL_law_11 rfl ?_
  refine N_callI (wr := []) (wc := [(q, .inr (11, [.int 0, .int 0, .long 0, .long 0, .null, .null, .null, .null, .int 0, .int 0, .int 0, .int 0, .int 0, .int 0, .int 0, .int 0, .int 0, .int 0, .int 0, .long 0, .null, .null, .null, .int 0, .int 0, .int 0, .int 0, .null, .null, .int 0, .null, .int 0, .null, .int 0, .int 0, .int 0, .int 0, .int 0, .int 0, .int 0, .int 0]))] ++ n_wl (ad, G.2)) (mc := 11) (ms := 3280) (As := []) (rest := [.ref q]) (post := fun w => ∃ (G' : vG) (S' : vSt), G'.2 = G.2 ∧ G'.1 0 = ad 0 ∧ G'.1 143 = q ∧ (∀ i, G'.1 (155 + i) = G.1 (155 + i)) ∧ a_Inv S' ∧ w = v_wl G' S') C (fun sz => i_X11_init (v_l X) G ad had q sz _ (fun G' S' h1 h2 h3 h4 h5 => ⟨G', S', h1, h2, h3, h4, h5, rfl⟩)) KI_X11_init kl_12 rfl rfl (Nat.le_of_ble_eq_true rfl) ⟨Nat.le_of_ble_eq_true rfl, Nat.le_of_ble_eq_true rfl⟩ ⟨Nat.le_of_ble_eq_true rfl, Nat.le_of_ble_eq_true rfl⟩ dL_law_12 rfl ?_
  rintro _ ⟨G', S', g2, g0, rfl, g155, inv, rfl⟩
  rw [← g0]
  refine N_astore_n (lv' := [(0, .ref bb), (1, .ref (G'.1 0)), (2, .ref (G'.1 143))]) C [1, 2, 0] dL_law_15 rfl (by decide) rfl ?_
  refine N_iconst (v := 0) C dL_law_16 (by decide) ?_
  refine N_istore_n (lv' := [(0, .ref bb), (1, .ref (G'.1 0)), (2, .ref (G'.1 143)), (3, .int 0)]) C [1, 2, 3, 0] dL_law_17 rfl (by decide) rfl ?_
  refine N_kk (a := 155) (b := 10226) rfl rfl ?_
  refine NJ_toV (G' := G') (S := S') (fun H hP hD => ⟨by rw [g2]; exact hP, ?_⟩) (fun hd => ?_)
  · refine ⟨fun i j hi hj e => hD.1 i j _ _ (v_wl_at hi) (v_wl_at hj) e, fun i hi => hD.2 i _ (v_wl_at hi)⟩
  · have C2 := n_toC C (G' := G') (k1 := 155) (k2 := 10226) g2 g155 hd (Nat.le_of_ble_eq_true rfl) (Nat.le_of_ble_eq_true rfl)
    exact q_law_18 C2 (fun H locs ls hS => D _ _ (Nat.le_of_ble_eq_true rfl) (Nat.le_of_ble_eq_true rfl) H locs ls hS) hX hbl hbA (513 + 1) S' 0 (law_runs hL 513 0 S' inv (by omega) (by omega))
