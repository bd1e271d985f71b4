/-! a call of trays -/
theorem t_pair {α : Type} {S : vSt} {o : (Nat → Int32) → aT → α × Int32 × aT} {px : (α → vSt → Prop) → Prop} {pm : vSt → (α → vSt → Prop) → Prop} {Q : vSt → Prop} (inv : a_Inv S) (hk : ∀ m T, a_ok m → a_tok T → a_tok (o m T).2.2) (hx : ∀ m T K, a_ok m → a_R S 10 m → a_tok T → a_TX S T → a_XT S K (o m T) → px K) (hm : ∀ m T S1 K, a_ok m → a_M S1 0 m → a_tok T → a_TM S1 T → a_MT S1 K (o m T) → pm S1 K) (hQ : ∀ S2, a_Inv S2 → Q S2) : px (fun r S1 => pm S1 (fun r' S2 => (r = r' → Q S2) ∧ (¬ r = r' → False))) := by
  obtain ⟨⟨i14, i17, i18⟩, ⟨i15, i16⟩, ⟨T, tok, tx, tm⟩, ⟨L, by_, px1, pm1⟩, ci, ⟨k, hk3, k13, k23, mk⟩, lv, lr⟩ := inv
  obtain ⟨m, nm, ok, nb, R, nx, M, nM, yc⟩ := id ci
  refine hx m T _ ok R tok tx (fun S1 f1 tx1 e14 => ?_)
  have e1 : ∀ k j, 143 ≤ k → S1.1 k j = S.1 k j ∧ S1.2 k j = S.2 k j := fun k j h => f1 k j (decide_eq_false (by omega))
  have M1 : a_M S1 0 m := fun j hj => (e1 148 _ (by omega)).1.trans (M j hj)
  have tm1 : a_TM S1 T := ⟨fun t ht => by rw [(e1 144 t (by omega)).1, (e1 145 t (by omega)).1]; exact tm.1 t ht, fun q hq => by rw [(e1 146 q (by omega)).2]; exact tm.2 q hq⟩
  refine hm m T S1 _ ok M1 tok tm1 (fun S2 f2 tm2 d0 => ⟨fun _ => hQ S2 ?_, fun w => absurd rfl w⟩)
  have F : a_fr (fun k j => a_tx k j || a_tm k j) S S2 := fr_t (fr_w f1 (fun k j w => (Bool.or_eq_false_iff.mp w).1)) (fr_w f2 (fun k j w => (Bool.or_eq_false_iff.mp w).2))
  have cl : ∀ k j, ¬ (k = 2 ∨ k = 3 ∨ k = 4 ∨ (k = 0 ∧ j = 14) ∨ k = 144 ∨ k = 145 ∨ k = 146 ∨ (k = 143 ∧ (j = 0 ∨ j = 1))) → (a_tx k j || a_tm k j) = false := fun k j w => Bool.or_eq_false_iff.mpr ⟨decide_eq_false (by omega), decide_eq_false (by omega)⟩
  have e : ∀ k j, ¬ (k = 2 ∨ k = 3 ∨ k = 4 ∨ (k = 0 ∧ j = 14) ∨ k = 144 ∨ k = 145 ∨ k = 146 ∨ (k = 143 ∧ (j = 0 ∨ j = 1))) → S2.1 k j = S.1 k j ∧ S2.2 k j = S.2 k j := fun k j w => F k j (cl k j w)
  have g0 : ∀ k j, k < 143 → S2.1 k j = S1.1 k j ∧ S2.2 k j = S1.2 k j := fun k j hk => f2 k j (decide_eq_false (by omega))
  refine ⟨⟨?_, ?_, ?_⟩, ⟨?_, ?_⟩, ⟨(o m T).2.2, hk m T ok tok, ⟨fun t ht => ?_, fun q hq => ?_⟩, tm2⟩, ⟨L, by_, ⟨px1.1, ?_, fun j hj => ?_⟩, ⟨pm1.1, ?_, fun j hj => ?_⟩⟩, ?_, ⟨k, hk3, ?_, ?_, fun j hj => ?_⟩, ?_, fun i hi => ?_⟩
  · rw [(g0 0 14 (by omega)).1, e14, d0]
  · rw [(e 0 17 (by omega)).2, (e 143 2 (by omega)).2]; exact i17
  · rw [(e 0 18 (by omega)).2, (e 143 3 (by omega)).2]; exact i18
  · rw [(e 0 15 (by omega)).1, (e 143 10 (by omega)).1]; exact i15
  · rw [(e 0 16 (by omega)).1, (e 143 11 (by omega)).1]; exact i16
  · rw [(g0 3 t (by omega)).1, (g0 4 t (by omega)).1]; exact tx1.1 t ht
  · rw [(g0 2 q (by omega)).2]; exact tx1.2 q hq
  · rw [(e 5 1 (by omega)).1]; exact px1.2.1
  · rw [(e 6 j (by omega)).1]; exact px1.2.2 j hj
  · rw [(e 143 8 (by omega)).1]; exact pm1.2.1
  · rw [(e 147 j (by omega)).1]; exact pm1.2.2 j hj
  · exact City_fr ci F (by omega) (fun k j h1 h2 => cl k j (by omega)) (fun j h1 h2 => cl 10 j (by omega)) (fun j h1 h2 => cl 148 j (by omega)) (fun j h1 h2 => cl 150 j (by omega))
  · rw [(e 0 13 (by omega)).1]; exact k13
  · rw [(e 143 23 (by omega)).1]; exact k23
  · exact City_fr (mk j hj) F (by omega) (fun k q h1 h2 => cl k q (by omega)) (fun q h1 h2 => cl _ q (by omega)) (fun q h1 h2 => cl 148 q (by omega)) (fun q h1 h2 => cl 150 q (by omega))
  · rw [(e 0 12 (by omega)).1, (e 143 33 (by omega)).1]; exact lv
  · rw [(e 76 i (by omega)).1, (e 154 i (by omega)).1]; exact lr i hi
