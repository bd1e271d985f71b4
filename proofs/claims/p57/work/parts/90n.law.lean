/-! the law from its entry to its first row behind the makings -/
theorem N_astore_n {X : vX} {G : vG} {cc : ByteArray} {own : String} {nL : Nat} {R : Room} {ws : va_W} {k1 k2 pc : Nat} {lv lv' : List (Nat × Value)} {st : List Value} (C : n_Cx X G cc own nL R) (ks : List Nat) {k : Fin 4} {i : Nat} {x : Nat} (hd : decode cc pc = .ok (.astore_n k, 1)) (hi : (k : Nat) = i) (hn : i < nL) (hl : lv_pick ((i, Value.ref x) :: lv.filter (fun q => !(q.1 == i) && !(q.1 + 1 == i && q.2.category == 2))) ks = lv') (kk : NJ X G ws k1 k2 (pc + 1) lv' st) : NJ X G ws k1 k2 pc lv (.ref x :: st) := fun H locs ls hP hD hS h => lv_astore_n C.x C.b hd hi h (by rw [C.nl]; exact hn) rfl (fun ls h => kk H locs ls hP hD hS (lv_sub h ks hl))
theorem kl_in : Cond.methodLink RL 112 yX10_init ∈ wsL_law := v_r1 _ (List.mem_of_getElem? (i := 4) rfl)
theorem kl_cl : Cond.classLink RL 18 RX10 ∈ wsL_law := v_r1 _ (List.mem_of_getElem? (i := 0) rfl)
theorem kl_i10 : Cond.instantiable RX10 19 ∈ wsL_law := v_r1 _ (List.mem_of_getElem? (i := 1) rfl)
theorem kl_z10 : Cond.initialized RX10 ∈ wsL_law := v_r1 _ (List.mem_of_getElem? (i := 2) rfl)
def n_Gl (ad : Nat → Nat) (G : vG) (q1 q2 : Nat) : vG := (fun k => if k < 143 then ad k else if k = 143 then q1 else if k = 144 then q2 else ad k, G.2)
theorem n_Gl_hi {ad : Nat → Nat} {G : vG} {q1 q2 : Nat} (i : Nat) : (n_Gl ad G q1 q2).1 (145 + i) = ad (145 + i) := by
  show (if 145 + i < 143 then _ else if 145 + i = 143 then _ else if 145 + i = 144 then _ else _) = _
  rw [if_neg (by omega), if_neg (by omega), if_neg (by omega)]
theorem n_lF (ad : Nat → Nat) (G : vG) (q1 q2 : Nat) : ∀ j, j < 2 → ([(q1, .inl (G.2.2.2.1, 24, .inl (fun _ => 0))), (q2, .inl (G.2.2.2.1, 29, .inl (fun _ => 0)))] : va_W)[j]? = some ((n_Gl ad G q1 q2).1 (143 + j), v_ce (n_Gl ad G q1 q2) n_s (143 + j)) := fun j hj => match j, hj with
  | 0, _ => rfl
  | 1, _ => rfl
theorem n_pm2 {W : va_W} {a b : Nat × va_E} : ((([] : va_W) ++ W ++ [a]) ++ [b]).Perm ([a, b] ++ W) := by
  rw [List.nil_append, List.append_assoc]
  exact List.perm_append_comm
theorem n_sW : b_W n_s [] := ⟨0, 0, rfl, by omega, fun x h => absurd h List.not_mem_nil, rfl, rfl, fun j hj => absurd hj (by omega), n_s.1 6, ⟨by omega, rfl, fun _ _ => rfl⟩, fun j hj => absurd hj (by omega)⟩
set_option maxHeartbeats 4000000 in
set_option maxRecDepth 100000 in
theorem law_go {X : vX} {G : vG} (C : n_Cx X G cL_law RL 26 room_1) {bb L : Nat} {xs : Nat → Int32} (hL : L ≤ 260) (hbb : G.1 (145 + 99) = bb) (hX : v_XX G L xs) (D : ∀ k1 k2 : Nat, k1 ≤ 600000 → k2 ≤ 7302250 → ∀ H locs ls, va_S (v_AA X) (v_s X).heap H locs → n_W X H locs k1 k2 (F0 (v_m X) 1565 ls [.int 1])) : NJ X G [] 0 0 0 [(0, .ref bb)] [] := by
  refine N_new (ci := 10) (T := TX10) (N := 19) (ty := tyX10) (fs := [.null, .null, .null, .null, .null, .null, .null, .null, .null, .null, .null, .null, .int 0, .int 0, .int 0, .int 0, .int 0, .long 0, .long 0]) C inlX10 tyX10_ok kl_cl kl_i10 kl_z10 rfl (by decide) (Nat.le_of_ble_eq_true rfl) (Nat.le_of_ble_eq_true rfl) dL_law_0 (fun q => ?_)
  refine N_ws (ws' := [(q, .inr (10, [.null, .null, .null, .null, .null, .null, .null, .null, .null, .null, .null, .null, .int 0, .int 0, .int 0, .int 0, .int 0, .long 0, .long 0]))]) rfl ?_
  refine N_dup C dL_law_3 rfl ?_
  refine N_callI (wr := []) (wc := [(q, .inr (10, [.null, .null, .null, .null, .null, .null, .null, .null, .null, .null, .null, .null, .int 0, .int 0, .int 0, .int 0, .int 0, .long 0, .long 0]))]) (mc := 142) (ms := 6886) (As := []) (rest := [.ref q]) (post := fun w => ∃ ad : Nat → Nat, (∀ i, ad (145 + i) = G.1 (145 + i)) ∧ ad 0 = q ∧ w = n_wl (ad, G.2)) C (fun sz => i_X10_init (v_l X) G q sz _ (fun ad h1 h2 => ⟨ad, h1, h2, rfl⟩)) KI_X10_init kl_in rfl rfl (Nat.le_of_ble_eq_true rfl) ⟨Nat.le_of_ble_eq_true rfl, Nat.le_of_ble_eq_true rfl⟩ ⟨Nat.le_of_ble_eq_true rfl, Nat.le_of_ble_eq_true rfl⟩ dL_law_4 rfl ?_
  rintro _ ⟨ad, had, rfl, rfl⟩
  refine N_astore_n (lv' := [(0, .ref bb), (1, .ref (ad 0))]) C [1, 0] dL_law_7 rfl (by decide) rfl ?_
  refine N_bipush (v := 24) C dL_law_8 (by decide) ?_
  refine N_newi (N := 24) C (by decide) (by decide +kernel) (by decide) (Nat.le_of_ble_eq_true rfl) (Nat.le_of_ble_eq_true rfl) dL_law_10 (fun q1 => ?_)
  refine N_astore_n (lv' := [(0, .ref bb), (1, .ref (ad 0)), (2, .ref q1)]) C [1, 2, 0] dL_law_12 rfl (by decide) rfl ?_
  refine N_bipush (v := 29) C dL_law_13 (by decide) ?_
  refine N_newi (N := 29) C (by decide) (by decide +kernel) (by decide) (Nat.le_of_ble_eq_true rfl) (Nat.le_of_ble_eq_true rfl) dL_law_15 (fun q2 => ?_)
  refine N_astore_n (lv' := [(0, .ref bb), (1, .ref (ad 0)), (2, .ref q1), (3, .ref q2)]) C [1, 2, 3, 0] dL_law_17 rfl (by decide) rfl ?_
  refine N_permL (ws' := [(q1, .inl (G.2.2.2.1, 24, .inl (fun _ => 0))), (q2, .inl (G.2.2.2.1, 29, .inl (fun _ => 0)))] ++ n_wl (ad, G.2)) n_pm2 ?_
  refine N_kk (a := 145) (b := 6958) rfl rfl ?_
  have e1 : ∀ i, (n_Gl ad G q1 q2).1 (145 + i) = G.1 (145 + i) := fun i => (n_Gl_hi i).trans (had i)
  refine NJ_toV (G' := n_Gl ad G q1 q2) (S := n_s) (fun H hP hD => n_full (G0 := (ad, G.2)) rfl (fun k hk => if_pos hk) rfl (n_lF ad G q1 q2) hP hD) (fun hd => ?_)
  have C2 := n_toC C (G' := n_Gl ad G q1 q2) (k1 := 145) (k2 := 6958) rfl e1 hd (Nat.le_of_ble_eq_true rfl) (Nat.le_of_ble_eq_true rfl)
  have hX2 : v_XX (n_Gl ad G q1 q2) L xs := by
    unfold v_XX at hX ⊢
    rw [show (fun i => (n_Gl ad G q1 q2).1 (145 + i)) = (fun i => G.1 (145 + i)) from funext e1]
    exact hX
  have eb : (n_Gl ad G q1 q2).1 (145 + 99) = bb := (e1 99).trans hbb
  have key := q_L_law_18 C2 (fun H locs ls hS => D _ _ (Nat.le_of_ble_eq_true rfl) (Nat.le_of_ble_eq_true rfl) H locs ls hS) hX2 n_s (l_18 hL n_sW rfl)
  rw [eb] at key
  exact key
