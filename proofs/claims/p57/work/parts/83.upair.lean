/-! a change of the city -/
def a_keep (m m' : Nat → Int32) : Prop := a_ok m' ∧ a_P m' = a_P m ∧ a_D m' = a_D m ∧ ∀ j, 108 ≤ j → m' j = m j
theorem yrs_m {m m' : Nat → Int32} {W : aW} {N K : Nat} (h : a_yrs m W N K) (hP : a_P m ≤ a_P m') (hD : a_D m ≤ a_D m') (hj : ∀ j, 108 ≤ j → m' j = m j) : a_yrs m' W N K := by
  obtain ⟨a, b, c, d⟩ := h
  exact ⟨a, b, (hj 109 (by omega)).trans c, sg_eq (sg_mono d hP hD) (fun _ _ _ _ _ => rfl) (fun x _ _ => hj _ (by omega))⟩
theorem Yc_m {S : vSt} {b : Nat} {m m' : Nat → Int32} (h : a_Yc S b m) (hP : a_P m ≤ a_P m') (hD : a_D m ≤ a_D m') (hj : ∀ j, 108 ≤ j → m' j = m j) : a_Yc S b m' := by
  rcases h with ⟨a, c⟩ | ⟨a, c, N, K, d, d2, y⟩
  · exact Or.inl ⟨a, (hj _ (by omega)).trans c⟩
  · exact Or.inr ⟨a, (hj _ (by omega)).trans c, N, K, d, d2, yrs_m y hP hD hj⟩
theorem u_pair {α : Type} {S : vSt} {o : (Nat → Int32) → α × Int32 × (Nat → Int32)} {px : (α → vSt → Prop) → Prop} {pm : vSt → (α → vSt → Prop) → Prop} {Q : vSt → Prop} (inv : a_Inv S) (hk : ∀ m, a_ok m → a_keep m (o m).2.2) (hx : ∀ m K, a_ok m → a_R S 10 m → a_XU S K (o m) → px K) (hm : ∀ m S1 K, a_ok m → a_M S1 0 m → a_MU S1 K (o m) → pm S1 K) (hQ : ∀ S2, a_Inv S2 → Q S2) : px (fun r S1 => pm S1 (fun r' S2 => (r = r' → Q S2) ∧ (¬ r = r' → False))) := by
  obtain ⟨⟨i14, i17, i18⟩, ⟨i15, i16⟩, ⟨T, tok, tx, tm⟩, ⟨L, by_, px1, pm1⟩, ci, ⟨k, hk3, k13, k23, mk⟩, lv, lr⟩ := inv
  obtain ⟨m, nm, ok, nb, R, nx, M, nM, yc⟩ := id ci
  have h8 := ok_P8 ok
  have h10 := ok_D10 ok
  obtain ⟨ok', eP, eD, ej⟩ := hk m ok
  refine hx m _ ok R (fun S1 f1 R1 e14 => ?_)
  have M1 : a_M S1 0 m := M_fr M f1 (fun j => by simp [a_cx, a_sc])
  refine hm m S1 _ ok M1 (fun S2 f2 M2 d0 => ⟨fun _ => hQ S2 ?_, fun w => absurd rfl w⟩)
  have F : a_fr (fun k j => a_cx k j || a_cmm k j) S S2 := fr_t (fr_w f1 (fun k j w => (Bool.or_eq_false_iff.mp w).1)) (fr_w f2 (fun k j w => (Bool.or_eq_false_iff.mp w).2))
  have cl : ∀ k j, ¬ ((k = 10 ∧ 15 ≤ j ∧ j ≤ 18) ∨ (11 ≤ k ∧ k ≤ 24 ∧ k ≠ 12 ∧ k ≠ 18) ∨ (k = 0 ∧ j = 14) ∨ k = 74 ∨ k = 75 ∨ (k = 148 ∧ j < 108) ∨ (k = 143 ∧ (j = 0 ∨ j = 1 ∨ j = 26))) → (a_cx k j || a_cmm k j) = false := by
    intro k j w
    unfold a_cx a_cmm a_sc a_cm
    refine Bool.or_eq_false_iff.mpr ⟨Bool.or_eq_false_iff.mpr ⟨decide_eq_false (by omega), decide_eq_false (by omega)⟩, Bool.or_eq_false_iff.mpr ⟨decide_eq_false (by omega), decide_eq_false (by omega)⟩⟩
  have e : ∀ k j, ¬ ((k = 10 ∧ 15 ≤ j ∧ j ≤ 18) ∨ (11 ≤ k ∧ k ≤ 24 ∧ k ≠ 12 ∧ k ≠ 18) ∨ (k = 0 ∧ j = 14) ∨ k = 74 ∨ k = 75 ∨ (k = 148 ∧ j < 108) ∨ (k = 143 ∧ (j = 0 ∨ j = 1 ∨ j = 26))) → S2.1 k j = S.1 k j ∧ S2.2 k j = S.2 k j := fun k j w => F k j (cl k j w)
  have g0 : ∀ k j, k < 143 → S2.1 k j = S1.1 k j := fun k j hk => (f2 k j (by unfold a_cmm a_cm; exact Bool.or_eq_false_iff.mpr ⟨decide_eq_false (by omega), decide_eq_false (by omega)⟩)).1
  refine ⟨⟨?_, ?_, ?_⟩, ⟨?_, ?_⟩, ⟨T, tok, ⟨fun t ht => ?_, fun q hq => ?_⟩, ⟨fun t ht => ?_, fun q hq => ?_⟩⟩, ⟨L, by_, ⟨px1.1, ?_, fun j hj => ?_⟩, ⟨pm1.1, ?_, fun j hj => ?_⟩⟩, ?_, ⟨k, hk3, ?_, ?_, fun j hj => ?_⟩, ?_, fun i hi => ?_⟩
  · rw [g0 0 14 (by omega), e14, d0]
  · rw [(e 0 17 (by omega)).2, (e 143 2 (by omega)).2]; exact i17
  · rw [(e 0 18 (by omega)).2, (e 143 3 (by omega)).2]; exact i18
  · rw [(e 0 15 (by omega)).1, (e 143 10 (by omega)).1]; exact i15
  · rw [(e 0 16 (by omega)).1, (e 143 11 (by omega)).1]; exact i16
  · rw [(e 3 t (by omega)).1, (e 4 t (by omega)).1]; exact tx.1 t ht
  · rw [(e 2 q (by omega)).2]; exact tx.2 q hq
  · rw [(e 144 t (by omega)).1, (e 145 t (by omega)).1]; exact tm.1 t ht
  · rw [(e 146 q (by omega)).2]; exact tm.2 q hq
  · rw [(e 5 1 (by omega)).1]; exact px1.2.1
  · rw [(e 6 j (by omega)).1]; exact px1.2.2 j hj
  · rw [(e 143 8 (by omega)).1]; exact pm1.2.1
  · rw [(e 147 j (by omega)).1]; exact pm1.2.2 j hj
  · refine ⟨(o m).2.2, nm, ok', ⟨fun p hp => nb.1 p (by omega), fun d hd => nb.2 d (by omega)⟩, fun j hj => ?_, ⟨fun p hp => ?_, fun d hd => ?_⟩, M2, ⟨fun p hp => ?_, fun d hd => ?_⟩, ?_⟩
    · have h1 : (a_xr j).1 ≤ 14 := (by decide +kernel : ∀ i, i < 108 → (a_xr i).1 ≤ 14) j (a_lv_lt hj)
      rw [g0 _ _ (by omega)]
      exact R1 j hj
    · rw [(e 12 p (by omega)).2]; exact nx.1 p (by omega)
    · rw [(e 18 d (by omega)).2]; exact nx.2 d (by omega)
    · rw [(e 150 _ (by omega)).2]; exact nM.1 p (by omega)
    · rw [(e 150 _ (by omega)).2]; exact nM.2 d (by omega)
    · exact Yc_m (Yc_fr yc F (fun k j h1 h2 => cl k j (by omega))) (by omega) (by omega) ej
  · rw [(e 0 13 (by omega)).1]; exact k13
  · rw [(e 143 23 (by omega)).1]; exact k23
  · exact City_fr (mk j hj) F (by omega) (fun k q h1 h2 => cl k q (by omega)) (fun q h1 h2 => cl _ q (by omega)) (fun q h1 h2 => cl 148 q (by omega)) (fun q h1 h2 => cl 150 q (by omega))
  · rw [(e 0 12 (by omega)).1, (e 143 33 (by omega)).1]; exact lv
  · rw [(e 76 i (by omega)).1, (e 154 i (by omega)).1]; exact lr i hi
