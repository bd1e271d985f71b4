/-! THE INVARIANT: the object of the class, the model's -/
def a_City (S : vSt) (b B : Nat) : Prop := ∃ m nm, a_ok m ∧ a_nmb m nm ∧ a_R S b m ∧ a_nmX S b m nm ∧ a_M S B m ∧ a_nmM S B m nm ∧ a_Yc S b m
def a_Inv (S : vSt) : Prop := (S.1 0 14 = S.1 143 0 ∧ S.2 0 17 = S.2 143 2 ∧ S.2 0 18 = S.2 143 3) ∧ (S.1 0 15 = S.1 143 10 ∧ S.1 0 16 = S.1 143 11) ∧ (∃ T, a_tok T ∧ a_TX S T ∧ a_TM S T) ∧ (∃ L by_, a_TpX S L by_ ∧ a_TpM S L by_) ∧ a_City S 10 0 ∧ (∃ k, k ≤ 3 ∧ S.1 0 13 = nI k ∧ S.1 143 23 = nI k ∧ ∀ j, j < k → a_City S (77 + 22 * j) (j + 1)) ∧ ((S.1 0 12 = 0 ∧ S.1 143 33 = 0) ∨ (S.1 0 12 = 1 ∧ S.1 143 33 = 1)) ∧ ∀ i, i < 5 → S.1 76 i = S.1 154 i
theorem City_fr {S S' : vSt} {b B : Nat} {c : Nat → Nat → Bool} (h : a_City S b B) (f : a_fr c S S') (hB : B < 5) (hb : ∀ k j, b + 1 ≤ k → k ≤ b + 20 → c k j = false) (hb0 : ∀ j, 15 ≤ j → j ≤ 18 → c b j = false) (h148 : ∀ j, 380 * B ≤ j → j < 380 * B + 380 → c 148 j = false) (h150 : ∀ j, 18 * B ≤ j → j < 18 * B + 18 → c 150 j = false) : a_City S' b B := by
  obtain ⟨m, nm, ok, nb, R, nx, M, nM, yc⟩ := h
  have h8 := ok_P8 ok
  have h10 := ok_D10 ok
  refine ⟨m, nm, ok, nb, R_fr R f (fun j hj => ?_), ⟨fun p hp => ?_, fun d hd => ?_⟩, fun j hj => ?_, ⟨fun p hp => ?_, fun d hd => ?_⟩, Yc_fr yc f (fun k j h1 h2 => hb k j (by omega) h2)⟩
  · have h1 : (a_xr j).1 ≤ 14 ∧ ((a_xr j).1 = 0 → 15 ≤ (a_xr j).2 ∧ (a_xr j).2 ≤ 18) := (by decide +kernel : ∀ i, i < 108 → (a_xr i).1 ≤ 14 ∧ ((a_xr i).1 = 0 → 15 ≤ (a_xr i).2 ∧ (a_xr i).2 ≤ 18)) j hj
    by_cases z : (a_xr j).1 = 0
    · rw [z]
      exact hb0 _ (h1.2 z).1 (h1.2 z).2
    · exact hb _ _ (by omega) (by omega)
  · rw [(f _ _ (hb _ _ (by omega) (by omega))).2]; exact nx.1 p hp
  · rw [(f _ _ (hb _ _ (by omega) (by omega))).2]; exact nx.2 d hd
  · rw [(f _ _ (h148 _ (by omega) (by omega))).1]; exact M j hj
  · rw [(f _ _ (h150 _ (by omega) (by omega))).2]; exact nM.1 p hp
  · rw [(f _ _ (h150 _ (by omega) (by omega))).2]; exact nM.2 d hd
/-- a question: what it works with changes, status and fraction -/
theorem q_pair {α : Type} {S : vSt} {o : (Nat → Int32) → α × Int32 × Option (Int64 × Int64)} {px : (α → vSt → Prop) → Prop} {pm : vSt → (α → vSt → Prop) → Prop} {Q : vSt → Prop} (inv : a_Inv S) (hx : ∀ m K, a_ok m → a_R S 10 m → a_XK S K (o m) → px K) (hm : ∀ m S1 K, a_ok m → a_M S1 0 m → a_MK S1 K (o m) → pm S1 K) (hQ : ∀ S2, a_Inv S2 → Q S2) : px (fun r S1 => pm S1 (fun r' S2 => (r = r' → Q S2) ∧ (¬ r = r' → False))) := by
  obtain ⟨⟨i14, i17, i18⟩, ⟨i15, i16⟩, ⟨T, tok, tx, tm⟩, ⟨L, by_, px1, pm1⟩, ci, ⟨k, hk, k13, k23, mk⟩, lv, lr⟩ := inv
  obtain ⟨m, nm, ok, nb, R, nx, M, nM, yc⟩ := id ci
  refine hx m _ ok R (fun S1 f1 e14 e17 e18 => ?_)
  have M1 : a_M S1 0 m := M_fr M f1 (fun j => by simp [a_sxx, a_sx])
  refine hm m S1 _ ok M1 (fun S2 f2 d0 d2 d3 => ⟨fun _ => hQ S2 ?_, fun w => absurd rfl w⟩)
  have F : a_fr (fun k j => a_sxx k j || a_smm k j) S S2 := fr_t (fr_w f1 (fun k j w => (Bool.or_eq_false_iff.mp w).1)) (fr_w f2 (fun k j w => (Bool.or_eq_false_iff.mp w).2))
  have cl : ∀ k j, ¬ ((31 ≤ k ∧ k ≤ 53) ∨ (55 ≤ k ∧ k ≤ 75) ∨ (7 ≤ k ∧ k ≤ 9) ∨ (k = 5 ∧ 7 ≤ j ∧ j ≤ 12) ∨ (k = 0 ∧ (j = 14 ∨ j = 17 ∨ j = 18)) ∨ (k = 143 ∧ (j ≤ 3 ∨ (12 ≤ j ∧ j ≤ 22) ∨ (24 ≤ j ∧ j ≤ 32) ∨ (34 ≤ j ∧ j ≤ 42))) ∨ k = 149 ∨ (151 ≤ k ∧ k ≤ 153)) → (a_sxx k j || a_smm k j) = false := by
    intro k j w
    unfold a_sxx a_smm a_sx a_sm
    refine Bool.or_eq_false_iff.mpr ⟨Bool.or_eq_false_iff.mpr ⟨decide_eq_false (by omega), decide_eq_false (by omega)⟩, Bool.or_eq_false_iff.mpr ⟨decide_eq_false (by omega), decide_eq_false (by omega)⟩⟩
  have e : ∀ k j, ¬ ((31 ≤ k ∧ k ≤ 53) ∨ (55 ≤ k ∧ k ≤ 75) ∨ (7 ≤ k ∧ k ≤ 9) ∨ (k = 5 ∧ 7 ≤ j ∧ j ≤ 12) ∨ (k = 0 ∧ (j = 14 ∨ j = 17 ∨ j = 18)) ∨ (k = 143 ∧ (j ≤ 3 ∨ (12 ≤ j ∧ j ≤ 22) ∨ (24 ≤ j ∧ j ≤ 32) ∨ (34 ≤ j ∧ j ≤ 42))) ∨ k = 149 ∨ (151 ≤ k ∧ k ≤ 153)) → S2.1 k j = S.1 k j ∧ S2.2 k j = S.2 k j := fun k j w => F k j (cl k j w)
  have g0 : ∀ j, S2.1 0 j = S1.1 0 j ∧ S2.2 0 j = S1.2 0 j := fun j => f2 0 j (by simp [a_smm, a_sm])
  have g143 : S1.2 143 2 = S.2 143 2 ∧ S1.2 143 3 = S.2 143 3 := ⟨(f1 143 2 rfl).2, (f1 143 3 rfl).2⟩
  refine ⟨⟨?_, ?_, ?_⟩, ⟨?_, ?_⟩, ⟨T, tok, ⟨fun t ht => ?_, fun q hq => ?_⟩, ⟨fun t ht => ?_, fun q hq => ?_⟩⟩, ⟨L, by_, ⟨px1.1, ?_, fun j hj => ?_⟩, ⟨pm1.1, ?_, fun j hj => ?_⟩⟩, ?_, ⟨k, hk, ?_, ?_, fun j hj => ?_⟩, ?_, fun i hi => ?_⟩
  · rw [(g0 14).1, e14, d0]
  · rw [(g0 17).2, e17, d2, g143.1, i17]
  · rw [(g0 18).2, e18, d3, g143.2, i18]
  · rw [(e 0 15 (by omega)).1, (e 143 10 (by omega)).1]; exact i15
  · rw [(e 0 16 (by omega)).1, (e 143 11 (by omega)).1]; exact i16
  · rw [(e 3 t (by omega)).1, (e 4 t (by omega)).1]; exact tx.1 t ht
  · rw [(e 2 q (by omega)).2]; exact tx.2 q hq
  · rw [(e 144 t (by omega)).1, (e 145 t (by omega)).1]; exact tm.1 t ht
  · rw [(e 146 q (by omega)).2]; exact tm.2 q hq
  · rw [(e 5 1 (by omega)).1]; exact px1.2.1
  · rw [(e 6 j (by omega)).1]; exact px1.2.2 j hj
  · rw [(e 143 8 (by omega)).1]; exact pm1.2.1
  · rw [(e 147 j (by omega)).1]; exact pm1.2.2 j hj
  · exact City_fr ci F (by omega) (fun k j h1 h2 => cl k j (by omega)) (fun j h1 h2 => cl 10 j (by omega)) (fun j h1 h2 => cl 148 j (by omega)) (fun j h1 h2 => cl 150 j (by omega))
  · rw [(e 0 13 (by omega)).1]; exact k13
  · rw [(e 143 23 (by omega)).1]; exact k23
  · exact City_fr (mk j hj) F (by omega) (fun k q h1 h2 => cl k q (by omega)) (fun q h1 h2 => cl _ q (by omega)) (fun q h1 h2 => cl 148 q (by omega)) (fun q h1 h2 => cl 150 q (by omega))
  · rw [(e 0 12 (by omega)).1, (e 143 33 (by omega)).1]; exact lv
  · rw [(e 76 i (by omega)).1, (e 154 i (by omega)).1]; exact lr i hi
