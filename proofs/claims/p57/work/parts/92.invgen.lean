/-! the invariant where the city, the tape and what was lived change -/
theorem City_fr2 {S S' : vSt} {b B : Nat} {c : Nat → Nat → Bool} (h : a_City S b B) (f : a_fr c S S') (hB : B < 5) (hb : ∀ k j, b + 1 ≤ k → k ≤ b + 20 → c k j = false) (hb0 : ∀ j, 15 ≤ j → j ≤ 18 → c b j = false) (h148 : ∀ j, 380 * B ≤ j → j < 380 * B + 380 → c 148 j = false) (e150 : ∀ j, 18 * B ≤ j → j < 18 * B + 18 → S'.2 150 j = S.2 150 j) : a_City S' b B := by
  obtain ⟨m, nm, ok, nb, R, nx, M, nM, yc⟩ := h
  have h8 := ok_P8 ok
  have h10 := ok_D10 ok
  refine ⟨m, nm, ok, nb, R_fr R f (fun j hj => ?_), ⟨fun p hp => ?_, fun d hd => ?_⟩, fun j hj => ?_, ⟨fun p hp => ?_, fun d hd => ?_⟩, Yc_fr yc f (fun k j h1 h2 => hb k j (by omega) h2)⟩
  · have h1 : (a_xr j).1 ≤ 14 ∧ ((a_xr j).1 = 0 → 15 ≤ (a_xr j).2 ∧ (a_xr j).2 ≤ 18) := (by decide +kernel : ∀ i, i < 108 → (a_xr i).1 ≤ 14 ∧ ((a_xr i).1 = 0 → 15 ≤ (a_xr i).2 ∧ (a_xr i).2 ≤ 18)) j hj
    by_cases z : (a_xr j).1 = 0
    · rw [z]
      exact hb0 _ (h1.2 z).1 (h1.2 z).2
    · exact hb _ _ (by omega) (by omega)
  · rw [(f _ _ (hb _ _ (by omega) (by omega))).2]; exact nx.1 p hp
  · rw [(f _ _ (hb _ _ (by omega) (by omega))).2]; exact nx.2 d hd
  · rw [(f _ _ (h148 _ (by omega) (by omega))).1]; exact M j hj
  · rw [e150 _ (by omega) (by omega)]; exact nM.1 p hp
  · rw [e150 _ (by omega) (by omega)]; exact nM.2 d hd
def a_kp (k j : Nat) : Prop := (k = 0 ∧ j = 13) ∨ k = 2 ∨ k = 3 ∨ k = 4 ∨ k = 144 ∨ k = 145 ∨ k = 146 ∨ (77 ≤ k ∧ k ≤ 142) ∨ (k = 143 ∧ j = 23) ∨ (k = 148 ∧ 380 ≤ j ∧ j < 1520)
def a_Tp (S : vSt) : Prop := ∃ L by_, a_TpX S L by_ ∧ a_TpM S L by_
def a_Lv (S : vSt) : Prop := (S.1 0 12 = 0 ∧ S.1 143 33 = 0) ∨ (S.1 0 12 = 1 ∧ S.1 143 33 = 1)
theorem Inv_gen {S S2 : vSt} {c : Nat → Nat → Bool} (inv : a_Inv S) (F : a_fr c S S2) (cl : ∀ k j, a_kp k j → c k j = false) (e150 : ∀ j, 18 ≤ j → j < 72 → S2.2 150 j = S.2 150 j) (st : S2.1 0 14 = S2.1 143 0 ∧ S2.2 0 17 = S2.2 143 2 ∧ S2.2 0 18 = S2.2 143 3) (fl : S2.1 0 15 = S2.1 143 10 ∧ S2.1 0 16 = S2.1 143 11) (tp : a_Tp S2) (ci : a_City S2 10 0) (lv : a_Lv S2) (lr : ∀ i, i < 5 → S2.1 76 i = S2.1 154 i) : a_Inv S2 := by
  obtain ⟨-, -, ⟨T, tok, tx, tm⟩, -, -, ⟨k, hk3, k13, k23, mk⟩, -, -⟩ := inv
  have e := fun k j w => F k j (cl k j w)
  unfold a_kp at cl e
  refine ⟨st, fl, ⟨T, tok, ⟨fun t ht => ?_, fun q hq => ?_⟩, ⟨fun t ht => ?_, fun q hq => ?_⟩⟩, tp, ci, ⟨k, hk3, ?_, ?_, fun j hj => ?_⟩, lv, lr⟩
  · rw [(e 3 t (by omega)).1, (e 4 t (by omega)).1]; exact tx.1 t ht
  · rw [(e 2 q (by omega)).2]; exact tx.2 q hq
  · rw [(e 144 t (by omega)).1, (e 145 t (by omega)).1]; exact tm.1 t ht
  · rw [(e 146 q (by omega)).2]; exact tm.2 q hq
  · rw [(e 0 13 (by omega)).1]; exact k13
  · rw [(e 143 23 (by omega)).1]; exact k23
  · exact City_fr2 (mk j hj) F (by omega) (fun k q h1 h2 => cl k q (by omega)) (fun q h1 h2 => cl _ q (by omega)) (fun q h1 h2 => cl 148 q (by omega)) (fun q h1 h2 => e150 q (by omega) (by omega))
theorem Tp_fr {S S2 : vSt} {c : Nat → Nat → Bool} (h : a_Tp S) (F : a_fr c S S2) (h1 : c 5 1 = false) (h6 : ∀ j, c 6 j = false) (h8 : c 143 8 = false) (h7 : ∀ j, c 147 j = false) : a_Tp S2 := by
  obtain ⟨L, by_, px1, pm1⟩ := h
  exact ⟨L, by_, ⟨px1.1, (F 5 1 h1).1.trans px1.2.1, fun j hj => (F 6 j (h6 j)).1.trans (px1.2.2 j hj)⟩, ⟨pm1.1, (F 143 8 h8).1.trans pm1.2.1, fun j hj => (F 147 j (h7 j)).1.trans (pm1.2.2 j hj)⟩⟩
theorem Tp_0 {S S2 : vSt} {c : Nat → Nat → Bool} (h : a_Tp S) (F : a_fr c S S2) (h1 : S2.1 5 1 = 0) (h6 : ∀ j, c 6 j = false) (h8 : S2.1 143 8 = 0) (h7 : ∀ j, c 147 j = false) : a_Tp S2 := by
  obtain ⟨L, by_, px1, pm1⟩ := h
  exact ⟨0, by_, ⟨by omega, h1, fun j hj => (F 6 j (h6 j)).1.trans (px1.2.2 j hj)⟩, ⟨by omega, h8, fun j hj => (F 147 j (h7 j)).1.trans (pm1.2.2 j hj)⟩⟩
theorem Lv_fr {S S2 : vSt} {c : Nat → Nat → Bool} (h : a_Lv S) (F : a_fr c S S2) (h1 : c 0 12 = false) (h2 : c 143 33 = false) : a_Lv S2 := by
  unfold a_Lv
  rw [(F 0 12 h1).1, (F 143 33 h2).1]; exact h
theorem lr_fr {S S2 : vSt} {c : Nat → Nat → Bool} (h : ∀ i, i < 5 → S.1 76 i = S.1 154 i) (F : a_fr c S S2) (h1 : ∀ j, c 76 j = false) (h2 : ∀ j, c 154 j = false) : ∀ i, i < 5 → S2.1 76 i = S2.1 154 i := fun i hi => by
  rw [(F 76 i (h1 i)).1, (F 154 i (h2 i)).1]; exact h i hi
