/-! THE LAW'S LOOP keeps the invariant -/
theorem v_b_inj (a b : Bool) : (v_b a = v_b b) = (a = b) := by cases a <;> cases b <;> simp [v_b]
theorem vt_k {n L k : Nat} {c : Int32} (hc : c = nI k) (h : n + k < L) (hL : L ≤ 3072) : vp_in (nI n + c) L = True := by
  subst hc
  rw [nI_add]
  exact eq_true (vpin ⟨h, by omega⟩)
theorem law_lt {L n : Nat} (h : L < n + 6) (hL : L ≤ 3072) (hn : n ≤ 4000) : (Int32.ofNat L) - 6 < nI n := by
  have e1 : (Int32.ofNat L).toInt = (L : Int) := nI_toInt (by omega)
  have e2 : (nI n).toInt = (n : Int) := nI_toInt (by omega)
  have e6 : (6 : Int32).toInt = 6 := by decide
  rw [Int32.lt_iff_toInt_lt, Int32.toInt_sub, e1, e2, e6]
  have : Int.bmod ((L : Int) - 6) (2 ^ 32) = (L : Int) - 6 := by
    rw [Int.bmod_def]
    split <;> omega
  rw [this]
  omega
theorem l_264 {L : Nat} {xs : Nat → Int32} {K : vSt → Int32 → Prop} {S : vSt} {n : Nat} (inv : a_Inv S) (hn : n + 6 ≤ L) (hL : L ≤ 3072) (hK : ∀ S2, a_Inv S2 → p_law_1939 L xs K () S2 (nI n)) : p_law_264 L xs K () S (nI n) := by
  unfold p_law_264
  exact status_pair inv hK
theorem l_277 {L : Nat} {xs : Nat → Int32} {K : vSt → Int32 → Prop} {S : vSt} {n : Nat} (inv : a_Inv S) (hn : n + 6 ≤ L) (hL : L ≤ 3072) (hK : ∀ S2, a_Inv S2 → p_law_1939 L xs K () S2 (nI n)) : p_law_277 L xs K () S (nI n) := by
  unfold p_law_277
  exact top_pair inv hK
theorem l_291 {L : Nat} {xs : Nat → Int32} {K : vSt → Int32 → Prop} {S : vSt} {n : Nat} (inv : a_Inv S) (hn : n + 6 ≤ L) (hL : L ≤ 3072) (hK : ∀ S2, a_Inv S2 → p_law_1939 L xs K () S2 (nI n)) : p_law_291 L xs K () S (nI n) := by
  unfold p_law_291
  exact bottom_pair inv hK
theorem l_305 {L : Nat} {xs : Nat → Int32} {K : vSt → Int32 → Prop} {S : vSt} {n : Nat} (inv : a_Inv S) (hn : n + 6 ≤ L) (hL : L ≤ 3072) (hK : ∀ S2, a_Inv S2 → p_law_1939 L xs K () S2 (nI n)) : p_law_305 L xs K () S (nI n) := by
  unfold p_law_305
  simp only [vt_k (c := 1) (k := 1) rfl (show n + 1 < L by omega) hL, vt_k (c := 2) (k := 2) rfl (show n + 2 < L by omega) hL, vt_k (c := 3) (k := 3) rfl (show n + 3 < L by omega) hL, true_and, v_b_inj]
  exact tray_pair inv hK
theorem l_348 {L : Nat} {xs : Nat → Int32} {K : vSt → Int32 → Prop} {S : vSt} {n : Nat} (inv : a_Inv S) (hn : n + 6 ≤ L) (hL : L ≤ 3072) (hK : ∀ S2, a_Inv S2 → p_law_1939 L xs K () S2 (nI n)) : p_law_348 L xs K () S (nI n) := by
  unfold p_law_348
  simp only [vt_k (c := 1) (k := 1) rfl (show n + 1 < L by omega) hL, vt_k (c := 2) (k := 2) rfl (show n + 2 < L by omega) hL, vt_k (c := 3) (k := 3) rfl (show n + 3 < L by omega) hL, vt_k (c := 4) (k := 4) rfl (show n + 4 < L by omega) hL, true_and, v_b_inj]
  exact write_pair inv hK
theorem l_421 {L : Nat} {xs : Nat → Int32} {K : vSt → Int32 → Prop} {S : vSt} {n : Nat} (inv : a_Inv S) (hn : n + 6 ≤ L) (hL : L ≤ 3072) (hK : ∀ S2, a_Inv S2 → p_law_1939 L xs K () S2 (nI n)) : p_law_421 L xs K () S (nI n) := by
  unfold p_law_421
  simp only [vt_k (c := 1) (k := 1) rfl (show n + 1 < L by omega) hL, vt_k (c := 2) (k := 2) rfl (show n + 2 < L by omega) hL, true_and]
  exact read_pair inv hK
theorem l_455 {L : Nat} {xs : Nat → Int32} {K : vSt → Int32 → Prop} {S : vSt} {n : Nat} (inv : a_Inv S) (hn : n + 6 ≤ L) (hL : L ≤ 3072) (hK : ∀ S2, a_Inv S2 → p_law_1939 L xs K () S2 (nI n)) : p_law_455 L xs K () S (nI n) := by
  unfold p_law_455
  simp only [vt_k (c := 1) (k := 1) rfl (show n + 1 < L by omega) hL, vt_k (c := 2) (k := 2) rfl (show n + 2 < L by omega) hL, vt_k (c := 3) (k := 3) rfl (show n + 3 < L by omega) hL, vt_k (c := 4) (k := 4) rfl (show n + 4 < L by omega) hL, vt_k (c := 5) (k := 5) rfl (show n + 5 < L by omega) hL, true_and, v_b_inj]
  exact pour_pair inv hK
theorem l_518 {L : Nat} {xs : Nat → Int32} {K : vSt → Int32 → Prop} {S : vSt} {n : Nat} (inv : a_Inv S) (hn : n + 6 ≤ L) (hL : L ≤ 3072) (hK : ∀ S2, a_Inv S2 → p_law_1939 L xs K () S2 (nI n)) : p_law_518 L xs K () S (nI n) := by
  unfold p_law_518
  simp only [vt_k (c := 1) (k := 1) rfl (show n + 1 < L by omega) hL, vt_k (c := 2) (k := 2) rfl (show n + 2 < L by omega) hL, vt_k (c := 3) (k := 3) rfl (show n + 3 < L by omega) hL, vt_k (c := 4) (k := 4) rfl (show n + 4 < L by omega) hL, vt_k (c := 5) (k := 5) rfl (show n + 5 < L by omega) hL, true_and]
  exact feed_pair inv hK
theorem l_581 {L : Nat} {xs : Nat → Int32} {K : vSt → Int32 → Prop} {S : vSt} {n : Nat} (inv : a_Inv S) (hn : n + 6 ≤ L) (hL : L ≤ 3072) (hK : ∀ S2, a_Inv S2 → p_law_1939 L xs K () S2 (nI n)) : p_law_581 L xs K () S (nI n) := by
  unfold p_law_581
  simp only [vt_k (c := 1) (k := 1) rfl (show n + 1 < L by omega) hL, true_and]
  exact city_pair inv hK
theorem l_604 {L : Nat} {xs : Nat → Int32} {K : vSt → Int32 → Prop} {S : vSt} {n : Nat} (inv : a_Inv S) (hn : n + 6 ≤ L) (hL : L ≤ 3072) (hK : ∀ S2, a_Inv S2 → p_law_1939 L xs K () S2 (nI n)) : p_law_604 L xs K () S (nI n) := by
  unfold p_law_604
  simp only [vt_k (c := 1) (k := 1) rfl (show n + 1 < L by omega) hL, true_and]
  exact years_pair inv hK
theorem l_627 {L : Nat} {xs : Nat → Int32} {K : vSt → Int32 → Prop} {S : vSt} {n : Nat} (inv : a_Inv S) (hn : n + 6 ≤ L) (hL : L ≤ 3072) (hK : ∀ S2, a_Inv S2 → p_law_1939 L xs K () S2 (nI n)) : p_law_627 L xs K () S (nI n) := by
  unfold p_law_627
  simp only [vt_k (c := 1) (k := 1) rfl (show n + 1 < L by omega) hL, true_and]
  exact fault_pair inv hK
theorem l_650 {L : Nat} {xs : Nat → Int32} {K : vSt → Int32 → Prop} {S : vSt} {n : Nat} (inv : a_Inv S) (hn : n + 6 ≤ L) (hL : L ≤ 3072) (hK : ∀ S2, a_Inv S2 → p_law_1939 L xs K () S2 (nI n)) : p_law_650 L xs K () S (nI n) := by
  unfold p_law_650
  simp only [vt_k (c := 1) (k := 1) rfl (show n + 1 < L by omega) hL, true_and]
  exact many_pair inv hK
theorem l_673 {L : Nat} {xs : Nat → Int32} {K : vSt → Int32 → Prop} {S : vSt} {n : Nat} (inv : a_Inv S) (hn : n + 6 ≤ L) (hL : L ≤ 3072) (hK : ∀ S2, a_Inv S2 → p_law_1939 L xs K () S2 (nI n)) : p_law_673 L xs K () S (nI n) := by
  unfold p_law_673
  simp only [vt_k (c := 1) (k := 1) rfl (show n + 1 < L by omega) hL, vt_k (c := 2) (k := 2) rfl (show n + 2 < L by omega) hL, true_and]
  exact person_pair inv hK
theorem l_706 {L : Nat} {xs : Nat → Int32} {K : vSt → Int32 → Prop} {S : vSt} {n : Nat} (inv : a_Inv S) (hn : n + 6 ≤ L) (hL : L ≤ 3072) (hK : ∀ S2, a_Inv S2 → p_law_1939 L xs K () S2 (nI n)) : p_law_706 L xs K () S (nI n) := by
  unfold p_law_706
  simp only [vt_k (c := 1) (k := 1) rfl (show n + 1 < L by omega) hL, vt_k (c := 2) (k := 2) rfl (show n + 2 < L by omega) hL, true_and]
  exact deed_pair inv hK
theorem l_739 {L : Nat} {xs : Nat → Int32} {K : vSt → Int32 → Prop} {S : vSt} {n : Nat} (inv : a_Inv S) (hn : n + 6 ≤ L) (hL : L ≤ 3072) (hK : ∀ S2, a_Inv S2 → p_law_1939 L xs K () S2 (nI n)) : p_law_739 L xs K () S (nI n) := by
  unfold p_law_739
  simp only [vt_k (c := 1) (k := 1) rfl (show n + 1 < L by omega) hL, true_and]
  exact copyCoins_pair inv hK
theorem l_762 {L : Nat} {xs : Nat → Int32} {K : vSt → Int32 → Prop} {S : vSt} {n : Nat} (inv : a_Inv S) (hn : n + 6 ≤ L) (hL : L ≤ 3072) (hK : ∀ S2, a_Inv S2 → p_law_1939 L xs K () S2 (nI n)) : p_law_762 L xs K () S (nI n) := by
  unfold p_law_762
  simp only [vt_k (c := 1) (k := 1) rfl (show n + 1 < L by omega) hL, vt_k (c := 2) (k := 2) rfl (show n + 2 < L by omega) hL, vt_k (c := 3) (k := 3) rfl (show n + 3 < L by omega) hL, true_and]
  exact charge_pair inv hK
theorem l_805 {L : Nat} {xs : Nat → Int32} {K : vSt → Int32 → Prop} {S : vSt} {n : Nat} (inv : a_Inv S) (hn : n + 6 ≤ L) (hL : L ≤ 3072) (hK : ∀ S2, a_Inv S2 → p_law_1939 L xs K () S2 (nI n)) : p_law_805 L xs K () S (nI n) := by
  unfold p_law_805
  simp only [vt_k (c := 1) (k := 1) rfl (show n + 1 < L by omega) hL, vt_k (c := 2) (k := 2) rfl (show n + 2 < L by omega) hL, vt_k (c := 3) (k := 3) rfl (show n + 3 < L by omega) hL, true_and]
  exact hear_pair inv hK
theorem l_848 {L : Nat} {xs : Nat → Int32} {K : vSt → Int32 → Prop} {S : vSt} {n : Nat} (inv : a_Inv S) (hn : n + 6 ≤ L) (hL : L ≤ 3072) (hK : ∀ S2, a_Inv S2 → p_law_1939 L xs K () S2 (nI n)) : p_law_848 L xs K () S (nI n) := by
  unfold p_law_848
  simp only [vt_k (c := 1) (k := 1) rfl (show n + 1 < L by omega) hL, vt_k (c := 2) (k := 2) rfl (show n + 2 < L by omega) hL, vt_k (c := 3) (k := 3) rfl (show n + 3 < L by omega) hL, true_and]
  exact drop_pair inv hK
theorem l_891 {L : Nat} {xs : Nat → Int32} {K : vSt → Int32 → Prop} {S : vSt} {n : Nat} (inv : a_Inv S) (hn : n + 6 ≤ L) (hL : L ≤ 3072) (hK : ∀ S2, a_Inv S2 → p_law_1939 L xs K () S2 (nI n)) : p_law_891 L xs K () S (nI n) := by
  unfold p_law_891
  simp only [vt_k (c := 1) (k := 1) rfl (show n + 1 < L by omega) hL, vt_k (c := 2) (k := 2) rfl (show n + 2 < L by omega) hL, vt_k (c := 3) (k := 3) rfl (show n + 3 < L by omega) hL, true_and]
  exact commit_pair inv hK
theorem l_934 {L : Nat} {xs : Nat → Int32} {K : vSt → Int32 → Prop} {S : vSt} {n : Nat} (inv : a_Inv S) (hn : n + 6 ≤ L) (hL : L ≤ 3072) (hK : ∀ S2, a_Inv S2 → p_law_1939 L xs K () S2 (nI n)) : p_law_934 L xs K () S (nI n) := by
  unfold p_law_934
  simp only [vt_k (c := 1) (k := 1) rfl (show n + 1 < L by omega) hL, true_and, v_b_inj]
  exact reopen_pair inv hK
theorem l_957 {L : Nat} {xs : Nat → Int32} {K : vSt → Int32 → Prop} {S : vSt} {n : Nat} (inv : a_Inv S) (hn : n + 6 ≤ L) (hL : L ≤ 3072) (hK : ∀ S2, a_Inv S2 → p_law_1939 L xs K () S2 (nI n)) : p_law_957 L xs K () S (nI n) := by
  unfold p_law_957
  simp only [vt_k (c := 1) (k := 1) rfl (show n + 1 < L by omega) hL, vt_k (c := 2) (k := 2) rfl (show n + 2 < L by omega) hL, true_and, v_b_inj]
  exact train_pair inv hK
theorem l_990 {L : Nat} {xs : Nat → Int32} {K : vSt → Int32 → Prop} {S : vSt} {n : Nat} (inv : a_Inv S) (hn : n + 6 ≤ L) (hL : L ≤ 3072) (hK : ∀ S2, a_Inv S2 → p_law_1939 L xs K () S2 (nI n)) : p_law_990 L xs K () S (nI n) := by
  unfold p_law_990
  simp only [vt_k (c := 1) (k := 1) rfl (show n + 1 < L by omega) hL, vt_k (c := 2) (k := 2) rfl (show n + 2 < L by omega) hL, true_and]
  exact earn_pair inv hK
theorem l_1023 {L : Nat} {xs : Nat → Int32} {K : vSt → Int32 → Prop} {S : vSt} {n : Nat} (inv : a_Inv S) (hn : n + 6 ≤ L) (hL : L ≤ 3072) (hK : ∀ S2, a_Inv S2 → p_law_1939 L xs K () S2 (nI n)) : p_law_1023 L xs K () S (nI n) := by
  unfold p_law_1023
  simp only [vt_k (c := 1) (k := 1) rfl (show n + 1 < L by omega) hL, vt_k (c := 2) (k := 2) rfl (show n + 2 < L by omega) hL, true_and, v_b_inj]
  exact rule_pair inv hK
theorem l_1056 {L : Nat} {xs : Nat → Int32} {K : vSt → Int32 → Prop} {S : vSt} {n : Nat} (inv : a_Inv S) (hn : n + 6 ≤ L) (hL : L ≤ 3072) (hK : ∀ S2, a_Inv S2 → p_law_1939 L xs K () S2 (nI n)) : p_law_1056 L xs K () S (nI n) := by
  unfold p_law_1056
  simp only [vt_k (c := 1) (k := 1) rfl (show n + 1 < L by omega) hL, vt_k (c := 2) (k := 2) rfl (show n + 2 < L by omega) hL, true_and]
  exact can_pair inv hK
theorem l_1089 {L : Nat} {xs : Nat → Int32} {K : vSt → Int32 → Prop} {S : vSt} {n : Nat} (inv : a_Inv S) (hn : n + 6 ≤ L) (hL : L ≤ 3072) (hK : ∀ S2, a_Inv S2 → p_law_1939 L xs K () S2 (nI n)) : p_law_1089 L xs K () S (nI n) := by
  unfold p_law_1089
  simp only [vt_k (c := 1) (k := 1) rfl (show n + 1 < L by omega) hL, vt_k (c := 2) (k := 2) rfl (show n + 2 < L by omega) hL, true_and]
  exact chance_pair inv hK
theorem l_1122 {L : Nat} {xs : Nat → Int32} {K : vSt → Int32 → Prop} {S : vSt} {n : Nat} (inv : a_Inv S) (hn : n + 6 ≤ L) (hL : L ≤ 3072) (hK : ∀ S2, a_Inv S2 → p_law_1939 L xs K () S2 (nI n)) : p_law_1122 L xs K () S (nI n) := by
  unfold p_law_1122
  simp only [vt_k (c := 1) (k := 1) rfl (show n + 1 < L by omega) hL, vt_k (c := 2) (k := 2) rfl (show n + 2 < L by omega) hL, vt_k (c := 3) (k := 3) rfl (show n + 3 < L by omega) hL, true_and, v_b_inj]
  exact votes_pair inv hK
theorem l_1165 {L : Nat} {xs : Nat → Int32} {K : vSt → Int32 → Prop} {S : vSt} {n : Nat} (inv : a_Inv S) (hn : n + 6 ≤ L) (hL : L ≤ 3072) (hK : ∀ S2, a_Inv S2 → p_law_1939 L xs K () S2 (nI n)) : p_law_1165 L xs K () S (nI n) := by
  unfold p_law_1165
  simp only [vt_k (c := 1) (k := 1) rfl (show n + 1 < L by omega) hL, vt_k (c := 2) (k := 2) rfl (show n + 2 < L by omega) hL, true_and, v_b_inj]
  exact wins_pair inv hK
theorem l_1198 {L : Nat} {xs : Nat → Int32} {K : vSt → Int32 → Prop} {S : vSt} {n : Nat} (inv : a_Inv S) (hn : n + 6 ≤ L) (hL : L ≤ 3072) (hK : ∀ S2, a_Inv S2 → p_law_1939 L xs K () S2 (nI n)) : p_law_1198 L xs K () S (nI n) := by
  unfold p_law_1198
  simp only [vt_k (c := 1) (k := 1) rfl (show n + 1 < L by omega) hL, vt_k (c := 2) (k := 2) rfl (show n + 2 < L by omega) hL, true_and, v_b_inj]
  exact owes_pair inv hK
theorem l_1231 {L : Nat} {xs : Nat → Int32} {K : vSt → Int32 → Prop} {S : vSt} {n : Nat} (inv : a_Inv S) (hn : n + 6 ≤ L) (hL : L ≤ 3072) (hK : ∀ S2, a_Inv S2 → p_law_1939 L xs K () S2 (nI n)) : p_law_1231 L xs K () S (nI n) := by
  unfold p_law_1231
  simp only [vt_k (c := 1) (k := 1) rfl (show n + 1 < L by omega) hL, vt_k (c := 2) (k := 2) rfl (show n + 2 < L by omega) hL, true_and, v_b_inj]
  exact gain_pair inv hK
theorem l_1264 {L : Nat} {xs : Nat → Int32} {K : vSt → Int32 → Prop} {S : vSt} {n : Nat} (inv : a_Inv S) (hn : n + 6 ≤ L) (hL : L ≤ 3072) (hK : ∀ S2, a_Inv S2 → p_law_1939 L xs K () S2 (nI n)) : p_law_1264 L xs K () S (nI n) := by
  unfold p_law_1264
  simp only [vt_k (c := 1) (k := 1) rfl (show n + 1 < L by omega) hL, vt_k (c := 2) (k := 2) rfl (show n + 2 < L by omega) hL, true_and, v_b_inj]
  exact loss_pair inv hK
theorem l_1297 {L : Nat} {xs : Nat → Int32} {K : vSt → Int32 → Prop} {S : vSt} {n : Nat} (inv : a_Inv S) (hn : n + 6 ≤ L) (hL : L ≤ 3072) (hK : ∀ S2, a_Inv S2 → p_law_1939 L xs K () S2 (nI n)) : p_law_1297 L xs K () S (nI n) := by
  unfold p_law_1297
  simp only [vt_k (c := 1) (k := 1) rfl (show n + 1 < L by omega) hL, true_and]
  exact best_pair inv hK
theorem l_1320 {L : Nat} {xs : Nat → Int32} {K : vSt → Int32 → Prop} {S : vSt} {n : Nat} (inv : a_Inv S) (hn : n + 6 ≤ L) (hL : L ≤ 3072) (hK : ∀ S2, a_Inv S2 → p_law_1939 L xs K () S2 (nI n)) : p_law_1320 L xs K () S (nI n) := by
  unfold p_law_1320
  simp only [vt_k (c := 1) (k := 1) rfl (show n + 1 < L by omega) hL, vt_k (c := 2) (k := 2) rfl (show n + 2 < L by omega) hL, true_and, v_b_inj]
  exact plan_pair inv hK
theorem l_1353 {L : Nat} {xs : Nat → Int32} {K : vSt → Int32 → Prop} {S : vSt} {n : Nat} (inv : a_Inv S) (hn : n + 6 ≤ L) (hL : L ≤ 3072) (hK : ∀ S2, a_Inv S2 → p_law_1939 L xs K () S2 (nI n)) : p_law_1353 L xs K () S (nI n) := by
  unfold p_law_1353
  simp only [vt_k (c := 1) (k := 1) rfl (show n + 1 < L by omega) hL, true_and]
  exact accuser_pair inv hK
theorem l_1376 {L : Nat} {xs : Nat → Int32} {K : vSt → Int32 → Prop} {S : vSt} {n : Nat} (inv : a_Inv S) (hn : n + 6 ≤ L) (hL : L ≤ 3072) (hK : ∀ S2, a_Inv S2 → p_law_1939 L xs K () S2 (nI n)) : p_law_1376 L xs K () S (nI n) := by
  unfold p_law_1376
  simp only [vt_k (c := 1) (k := 1) rfl (show n + 1 < L by omega) hL, true_and]
  exact dreaded_pair inv hK
theorem l_1399 {L : Nat} {xs : Nat → Int32} {K : vSt → Int32 → Prop} {S : vSt} {n : Nat} (inv : a_Inv S) (hn : n + 6 ≤ L) (hL : L ≤ 3072) (hK : ∀ S2, a_Inv S2 → p_law_1939 L xs K () S2 (nI n)) : p_law_1399 L xs K () S (nI n) := by
  unfold p_law_1399
  simp only [vt_k (c := 1) (k := 1) rfl (show n + 1 < L by omega) hL, true_and, v_b_inj]
  exact dread_pair inv hK
theorem l_1422 {L : Nat} {xs : Nat → Int32} {K : vSt → Int32 → Prop} {S : vSt} {n : Nat} (inv : a_Inv S) (hn : n + 6 ≤ L) (hL : L ≤ 3072) (hK : ∀ S2, a_Inv S2 → p_law_1939 L xs K () S2 (nI n)) : p_law_1422 L xs K () S (nI n) := by
  unfold p_law_1422
  simp only [vt_k (c := 1) (k := 1) rfl (show n + 1 < L by omega) hL, true_and]
  exact friend_pair inv hK
theorem l_1445 {L : Nat} {xs : Nat → Int32} {K : vSt → Int32 → Prop} {S : vSt} {n : Nat} (inv : a_Inv S) (hn : n + 6 ≤ L) (hL : L ≤ 3072) (hK : ∀ S2, a_Inv S2 → p_law_1939 L xs K () S2 (nI n)) : p_law_1445 L xs K () S (nI n) := by
  unfold p_law_1445
  exact quiet_pair inv hK
theorem l_1458 {L : Nat} {xs : Nat → Int32} {K : vSt → Int32 → Prop} {S : vSt} {n : Nat} (inv : a_Inv S) (hn : n + 6 ≤ L) (hL : L ≤ 3072) (hK : ∀ S2, a_Inv S2 → p_law_1939 L xs K () S2 (nI n)) : p_law_1458 L xs K () S (nI n) := by
  unfold p_law_1458
  simp only [vt_k (c := 1) (k := 1) rfl (show n + 1 < L by omega) hL, vt_k (c := 2) (k := 2) rfl (show n + 2 < L by omega) hL, vt_k (c := 3) (k := 3) rfl (show n + 3 < L by omega) hL, true_and]
  exact trade_pair inv hK
theorem l_1501 {L : Nat} {xs : Nat → Int32} {K : vSt → Int32 → Prop} {S : vSt} {n : Nat} (inv : a_Inv S) (hn : n + 6 ≤ L) (hL : L ≤ 3072) (hK : ∀ S2, a_Inv S2 → p_law_1939 L xs K () S2 (nI n)) : p_law_1501 L xs K () S (nI n) := by
  unfold p_law_1501
  simp only [vt_k (c := 1) (k := 1) rfl (show n + 1 < L by omega) hL, true_and]
  exact leastShare_pair inv hK
theorem l_1524 {L : Nat} {xs : Nat → Int32} {K : vSt → Int32 → Prop} {S : vSt} {n : Nat} (inv : a_Inv S) (hn : n + 6 ≤ L) (hL : L ≤ 3072) (hK : ∀ S2, a_Inv S2 → p_law_1939 L xs K () S2 (nI n)) : p_law_1524 L xs K () S (nI n) := by
  unfold p_law_1524
  simp only [vt_k (c := 1) (k := 1) rfl (show n + 1 < L by omega) hL, true_and]
  exact leastFine_pair inv hK
theorem l_1547 {L : Nat} {xs : Nat → Int32} {K : vSt → Int32 → Prop} {S : vSt} {n : Nat} (inv : a_Inv S) (hn : n + 6 ≤ L) (hL : L ≤ 3072) (hK : ∀ S2, a_Inv S2 → p_law_1939 L xs K () S2 (nI n)) : p_law_1547 L xs K () S (nI n) := by
  unfold p_law_1547
  simp only [vt_k (c := 1) (k := 1) rfl (show n + 1 < L by omega) hL, true_and]
  exact mostPenalty_pair inv hK
theorem l_1570 {L : Nat} {xs : Nat → Int32} {K : vSt → Int32 → Prop} {S : vSt} {n : Nat} (inv : a_Inv S) (hn : n + 6 ≤ L) (hL : L ≤ 3072) (hK : ∀ S2, a_Inv S2 → p_law_1939 L xs K () S2 (nI n)) : p_law_1570 L xs K () S (nI n) := by
  unfold p_law_1570
  simp only [vt_k (c := 1) (k := 1) rfl (show n + 1 < L by omega) hL, vt_k (c := 2) (k := 2) rfl (show n + 2 < L by omega) hL, true_and]
  exact gladBy_pair inv hK
theorem l_1603 {L : Nat} {xs : Nat → Int32} {K : vSt → Int32 → Prop} {S : vSt} {n : Nat} (inv : a_Inv S) (hn : n + 6 ≤ L) (hL : L ≤ 3072) (hK : ∀ S2, a_Inv S2 → p_law_1939 L xs K () S2 (nI n)) : p_law_1603 L xs K () S (nI n) := by
  unfold p_law_1603
  simp only [vt_k (c := 1) (k := 1) rfl (show n + 1 < L by omega) hL, vt_k (c := 2) (k := 2) rfl (show n + 2 < L by omega) hL, vt_k (c := 3) (k := 3) rfl (show n + 3 < L by omega) hL, true_and, v_b_inj]
  exact game_pair inv hK
theorem l_1646 {L : Nat} {xs : Nat → Int32} {K : vSt → Int32 → Prop} {S : vSt} {n : Nat} (inv : a_Inv S) (hn : n + 6 ≤ L) (hL : L ≤ 3072) (hK : ∀ S2, a_Inv S2 → p_law_1939 L xs K () S2 (nI n)) : p_law_1646 L xs K () S (nI n) := by
  unfold p_law_1646
  simp only [vt_k (c := 1) (k := 1) rfl (show n + 1 < L by omega) hL, vt_k (c := 2) (k := 2) rfl (show n + 2 < L by omega) hL, vt_k (c := 3) (k := 3) rfl (show n + 3 < L by omega) hL, true_and]
  exact moveOf_pair inv hK
theorem l_1689 {L : Nat} {xs : Nat → Int32} {K : vSt → Int32 → Prop} {S : vSt} {n : Nat} (inv : a_Inv S) (hn : n + 6 ≤ L) (hL : L ≤ 3072) (hK : ∀ S2, a_Inv S2 → p_law_1939 L xs K () S2 (nI n)) : p_law_1689 L xs K () S (nI n) := by
  unfold p_law_1689
  simp only [vt_k (c := 1) (k := 1) rfl (show n + 1 < L by omega) hL, true_and]
  exact club_pair inv hK
theorem l_1712 {L : Nat} {xs : Nat → Int32} {K : vSt → Int32 → Prop} {S : vSt} {n : Nat} (inv : a_Inv S) (hn : n + 6 ≤ L) (hL : L ≤ 3072) (hK : ∀ S2, a_Inv S2 → p_law_1939 L xs K () S2 (nI n)) : p_law_1712 L xs K () S (nI n) := by
  unfold p_law_1712
  simp only [vt_k (c := 1) (k := 1) rfl (show n + 1 < L by omega) hL, true_and, v_b_inj]
  exact clubPart_pair inv hK
theorem l_1735 {L : Nat} {xs : Nat → Int32} {K : vSt → Int32 → Prop} {S : vSt} {n : Nat} (inv : a_Inv S) (hn : n + 6 ≤ L) (hL : L ≤ 3072) (hK : ∀ S2, a_Inv S2 → p_law_1939 L xs K () S2 (nI n)) : p_law_1735 L xs K () S (nI n) := by
  unfold p_law_1735
  simp only [vt_k (c := 1) (k := 1) rfl (show n + 1 < L by omega) hL, vt_k (c := 2) (k := 2) rfl (show n + 2 < L by omega) hL, true_and]
  exact gained_pair inv hK
theorem l_1768 {L : Nat} {xs : Nat → Int32} {K : vSt → Int32 → Prop} {S : vSt} {n : Nat} (inv : a_Inv S) (hn : n + 6 ≤ L) (hL : L ≤ 3072) (hK : ∀ S2, a_Inv S2 → p_law_1939 L xs K () S2 (nI n)) : p_law_1768 L xs K () S (nI n) := by
  unfold p_law_1768
  simp only [vt_k (c := 1) (k := 1) rfl (show n + 1 < L by omega) hL, vt_k (c := 2) (k := 2) rfl (show n + 2 < L by omega) hL, true_and]
  exact sure_pair inv hK
theorem l_1801 {L : Nat} {xs : Nat → Int32} {K : vSt → Int32 → Prop} {S : vSt} {n : Nat} (inv : a_Inv S) (hn : n + 6 ≤ L) (hL : L ≤ 3072) (hK : ∀ S2, a_Inv S2 → p_law_1939 L xs K () S2 (nI n)) : p_law_1801 L xs K () S (nI n) := by
  unfold p_law_1801
  simp only [vt_k (c := 1) (k := 1) rfl (show n + 1 < L by omega) hL, vt_k (c := 2) (k := 2) rfl (show n + 2 < L by omega) hL, true_and]
  exact bound_pair inv hK
theorem l_1834 {L : Nat} {xs : Nat → Int32} {K : vSt → Int32 → Prop} {S : vSt} {n : Nat} (inv : a_Inv S) (hn : n + 6 ≤ L) (hL : L ≤ 3072) (hK : ∀ S2, a_Inv S2 → p_law_1939 L xs K () S2 (nI n)) : p_law_1834 L xs K () S (nI n) := by
  unfold p_law_1834
  simp only [vt_k (c := 1) (k := 1) rfl (show n + 1 < L by omega) hL, true_and]
  exact live_pair inv hK
theorem l_1857 {L : Nat} {xs : Nat → Int32} {K : vSt → Int32 → Prop} {S : vSt} {n : Nat} (inv : a_Inv S) (hn : n + 6 ≤ L) (hL : L ≤ 3072) (hK : ∀ S2, a_Inv S2 → p_law_1939 L xs K () S2 (nI n)) : p_law_1857 L xs K () S (nI n) := by
  unfold p_law_1857
  simp only [vt_k (c := 1) (k := 1) rfl (show n + 1 < L by omega) hL, true_and]
  exact lived_pair inv hK
theorem l_1880 {L : Nat} {xs : Nat → Int32} {K : vSt → Int32 → Prop} {S : vSt} {n : Nat} (inv : a_Inv S) (hn : n + 6 ≤ L) (hL : L ≤ 3072) (hK : ∀ S2, a_Inv S2 → p_law_1939 L xs K () S2 (nI n)) : p_law_1880 L xs K () S (nI n) := by
  unfold p_law_1880
  simp only [vt_k (c := 1) (k := 1) rfl (show n + 1 < L by omega) hL, vt_k (c := 2) (k := 2) rfl (show n + 2 < L by omega) hL, true_and, v_b_inj]
  exact mean_pair inv hK
theorem l_1913 {L : Nat} {xs : Nat → Int32} {K : vSt → Int32 → Prop} {S : vSt} {n : Nat} (inv : a_Inv S) (hn : n + 6 ≤ L) (hL : L ≤ 3072) (hK : ∀ S2, a_Inv S2 → p_law_1939 L xs K () S2 (nI n)) : p_law_1913 L xs K () S (nI n) := by
  unfold p_law_1913
  exact mark_pair inv hK
theorem l_1926 {L : Nat} {xs : Nat → Int32} {K : vSt → Int32 → Prop} {S : vSt} {n : Nat} (inv : a_Inv S) (hn : n + 6 ≤ L) (hL : L ≤ 3072) (hK : ∀ S2, a_Inv S2 → p_law_1939 L xs K () S2 (nI n)) : p_law_1926 L xs K () S (nI n) := by
  unfold p_law_1926
  exact back_pair inv hK
theorem law_runs {L : Nat} {xs : Nat → Int32} (hL : L ≤ 3072) : ∀ (fu n : Nat) (S : vSt), a_Inv S → L < n + 6 + 6 * fu → n ≤ 4000 → p_law_18 L xs () (fu + 1) S (nI n) := by
  intro fu
  induction fu with
  | zero =>
    intro n S inv h hn
    rw [e_law_18]
    refine ⟨fun _ => trivial, fun c => absurd ?_ c⟩
    exact law_lt (by omega) (by omega) (by omega)
  | succ fu ih =>
    intro n S inv h hn4
    rw [e_law_18]
    refine ⟨fun _ => trivial, fun c => ?_⟩
    have hn : n + 6 ≤ L := by
      rcases Nat.lt_or_ge L (n + 6) with q | q
      · exact absurd (law_lt q (by omega) (by omega)) c
      · exact q
    have step : ∀ S2, a_Inv S2 → p_law_1939 L xs (p_law_18 L xs () (fu + 1)) () S2 (nI n) := by
      intro S2 inv2
      unfold p_law_1939
      rintro _ rfl
      rw [show nI n + 6 = nI (n + 6) from by rw [show (6 : Int32) = nI 6 from rfl, nI_add]]
      exact ih (n + 6) S2 inv2 (by omega) (by omega)
    refine ⟨vpin ⟨by omega, by omega⟩, fun _ => ?_, fun _ => ?_, fun _ => ?_, fun _ => ?_, fun _ => ?_, fun _ => ?_, fun _ => ?_, fun _ => ?_, fun _ => ?_, fun _ => ?_, fun _ => ?_, fun _ => ?_, fun _ => ?_, fun _ => ?_, fun _ => ?_, fun _ => ?_, fun _ => ?_, fun _ => ?_, fun _ => ?_, fun _ => ?_, fun _ => ?_, fun _ => ?_, fun _ => ?_, fun _ => ?_, fun _ => ?_, fun _ => ?_, fun _ => ?_, fun _ => ?_, fun _ => ?_, fun _ => ?_, fun _ => ?_, fun _ => ?_, fun _ => ?_, fun _ => ?_, fun _ => ?_, fun _ => ?_, fun _ => ?_, fun _ => ?_, fun _ => ?_, fun _ => ?_, fun _ => ?_, fun _ => ?_, fun _ => ?_, fun _ => ?_, fun _ => ?_, fun _ => ?_, fun _ => ?_, fun _ => ?_, fun _ => ?_, fun _ => ?_, fun _ => ?_, fun _ => ?_, fun _ => ?_, fun _ => ?_, fun _ => step S inv⟩
    · exact l_264 inv hn hL (fun S2 inv2 => step S2 inv2)
    · exact l_277 inv hn hL (fun S2 inv2 => step S2 inv2)
    · exact l_291 inv hn hL (fun S2 inv2 => step S2 inv2)
    · exact l_305 inv hn hL (fun S2 inv2 => step S2 inv2)
    · exact l_348 inv hn hL (fun S2 inv2 => step S2 inv2)
    · exact l_421 inv hn hL (fun S2 inv2 => step S2 inv2)
    · exact l_455 inv hn hL (fun S2 inv2 => step S2 inv2)
    · exact l_518 inv hn hL (fun S2 inv2 => step S2 inv2)
    · exact l_581 inv hn hL (fun S2 inv2 => step S2 inv2)
    · exact l_604 inv hn hL (fun S2 inv2 => step S2 inv2)
    · exact l_627 inv hn hL (fun S2 inv2 => step S2 inv2)
    · exact l_650 inv hn hL (fun S2 inv2 => step S2 inv2)
    · exact l_673 inv hn hL (fun S2 inv2 => step S2 inv2)
    · exact l_706 inv hn hL (fun S2 inv2 => step S2 inv2)
    · exact l_739 inv hn hL (fun S2 inv2 => step S2 inv2)
    · exact l_762 inv hn hL (fun S2 inv2 => step S2 inv2)
    · exact l_805 inv hn hL (fun S2 inv2 => step S2 inv2)
    · exact l_848 inv hn hL (fun S2 inv2 => step S2 inv2)
    · exact l_891 inv hn hL (fun S2 inv2 => step S2 inv2)
    · exact l_934 inv hn hL (fun S2 inv2 => step S2 inv2)
    · exact l_957 inv hn hL (fun S2 inv2 => step S2 inv2)
    · exact l_990 inv hn hL (fun S2 inv2 => step S2 inv2)
    · exact l_1023 inv hn hL (fun S2 inv2 => step S2 inv2)
    · exact l_1056 inv hn hL (fun S2 inv2 => step S2 inv2)
    · exact l_1089 inv hn hL (fun S2 inv2 => step S2 inv2)
    · exact l_1122 inv hn hL (fun S2 inv2 => step S2 inv2)
    · exact l_1165 inv hn hL (fun S2 inv2 => step S2 inv2)
    · exact l_1198 inv hn hL (fun S2 inv2 => step S2 inv2)
    · exact l_1231 inv hn hL (fun S2 inv2 => step S2 inv2)
    · exact l_1264 inv hn hL (fun S2 inv2 => step S2 inv2)
    · exact l_1297 inv hn hL (fun S2 inv2 => step S2 inv2)
    · exact l_1320 inv hn hL (fun S2 inv2 => step S2 inv2)
    · exact l_1353 inv hn hL (fun S2 inv2 => step S2 inv2)
    · exact l_1376 inv hn hL (fun S2 inv2 => step S2 inv2)
    · exact l_1399 inv hn hL (fun S2 inv2 => step S2 inv2)
    · exact l_1422 inv hn hL (fun S2 inv2 => step S2 inv2)
    · exact l_1445 inv hn hL (fun S2 inv2 => step S2 inv2)
    · exact l_1458 inv hn hL (fun S2 inv2 => step S2 inv2)
    · exact l_1501 inv hn hL (fun S2 inv2 => step S2 inv2)
    · exact l_1524 inv hn hL (fun S2 inv2 => step S2 inv2)
    · exact l_1547 inv hn hL (fun S2 inv2 => step S2 inv2)
    · exact l_1570 inv hn hL (fun S2 inv2 => step S2 inv2)
    · exact l_1603 inv hn hL (fun S2 inv2 => step S2 inv2)
    · exact l_1646 inv hn hL (fun S2 inv2 => step S2 inv2)
    · exact l_1689 inv hn hL (fun S2 inv2 => step S2 inv2)
    · exact l_1712 inv hn hL (fun S2 inv2 => step S2 inv2)
    · exact l_1735 inv hn hL (fun S2 inv2 => step S2 inv2)
    · exact l_1768 inv hn hL (fun S2 inv2 => step S2 inv2)
    · exact l_1801 inv hn hL (fun S2 inv2 => step S2 inv2)
    · exact l_1834 inv hn hL (fun S2 inv2 => step S2 inv2)
    · exact l_1857 inv hn hL (fun S2 inv2 => step S2 inv2)
    · exact l_1880 inv hn hL (fun S2 inv2 => step S2 inv2)
    · exact l_1913 inv hn hL (fun S2 inv2 => step S2 inv2)
    · exact l_1926 inv hn hL (fun S2 inv2 => step S2 inv2)
