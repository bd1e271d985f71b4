/-! what the invariant does not speak of may change -/
theorem Inv_fr {S S2 : vSt} {c : Nat → Nat → Bool} (inv : a_Inv S) (F : a_fr c S S2) (cl : ∀ k j, ¬ ((7 ≤ k ∧ k ≤ 9) ∨ (31 ≤ k ∧ k ≤ 75) ∨ (k = 143 ∧ (j = 1 ∨ (4 ≤ j ∧ j ≤ 7) ∨ j = 9 ∨ (12 ≤ j ∧ j ≤ 22) ∨ (24 ≤ j ∧ j ≤ 32) ∨ 34 ≤ j)) ∨ k = 149 ∨ (151 ≤ k ∧ k ≤ 153)) → c k j = false) : a_Inv S2 := by
  obtain ⟨⟨i14, i17, i18⟩, ⟨i15, i16⟩, ⟨T, tok, tx, tm⟩, ⟨L, by_, px1, pm1⟩, ci, ⟨k, hk3, k13, k23, mk⟩, lv, lr⟩ := inv
  have e := fun k j w => F k j (cl k j w)
  refine ⟨⟨?_, ?_, ?_⟩, ⟨?_, ?_⟩, ⟨T, tok, ⟨fun t ht => ?_, fun q hq => ?_⟩, ⟨fun t ht => ?_, fun q hq => ?_⟩⟩, ⟨L, by_, ⟨px1.1, ?_, fun j hj => ?_⟩, ⟨pm1.1, ?_, fun j hj => ?_⟩⟩, ?_, ⟨k, hk3, ?_, ?_, fun j hj => ?_⟩, ?_, fun i hi => ?_⟩
  · rw [(e 0 14 (by omega)).1, (e 143 0 (by omega)).1]; exact i14
  · rw [(e 0 17 (by omega)).2, (e 143 2 (by omega)).2]; exact i17
  · rw [(e 0 18 (by omega)).2, (e 143 3 (by omega)).2]; exact i18
  · rw [(e 0 15 (by omega)).1, (e 143 10 (by omega)).1]; exact i15
  · rw [(e 0 16 (by omega)).1, (e 143 11 (by omega)).1]; exact i16
  · rw [(e 3 t (by omega)).1, (e 4 t (by omega)).1]; exact tx.1 t ht
  · rw [(e 2 q (by omega)).2]; exact tx.2 q hq
  · rw [(e 144 t (by omega)).1, (e 145 t (by omega)).1]; exact tm.1 t ht
  · rw [(e 146 q (by omega)).2]; exact tm.2 q hq
  · rw [(e 5 1 (by omega)).1]; exact px1.2.1
  · rw [(e 6 j (by omega)).1]; exact px1.2.2 j hj
  · rw [(e 143 8 (by omega)).1]; exact pm1.2.1
  · rw [(e 147 j (by omega)).1]; exact pm1.2.2 j hj
  · exact City_fr ci F (by omega) (fun k j h1 h2 => cl k j (by omega)) (fun j h1 h2 => cl 10 j (by omega)) (fun j h1 h2 => cl 148 j (by omega)) (fun j h1 h2 => cl 150 j (by omega))
  · rw [(e 0 13 (by omega)).1]; exact k13
  · rw [(e 143 23 (by omega)).1]; exact k23
  · exact City_fr (mk j hj) F (by omega) (fun k q h1 h2 => cl k q (by omega)) (fun q h1 h2 => cl _ q (by omega)) (fun q h1 h2 => cl 148 q (by omega)) (fun q h1 h2 => cl 150 q (by omega))
  · rw [(e 0 12 (by omega)).1, (e 143 33 (by omega)).1]; exact lv
  · rw [(e 76 i (by omega)).1, (e 154 i (by omega)).1]; exact lr i hi
/-- both tell a status -/
theorem Inv_st {S : vSt} {x : Int32} (inv : a_Inv S) : a_Inv (v_si (v_si S 0 14 x) 143 0 x) := by
  obtain ⟨⟨i14, i17, i18⟩, ⟨i15, i16⟩, ⟨T, tok, tx, tm⟩, ⟨L, by_, px1, pm1⟩, ci, ⟨k, hk3, k13, k23, mk⟩, lv, lr⟩ := inv
  have F : a_fr (fun k j => decide ((k = 0 ∧ j = 14) ∨ (k = 143 ∧ j = 0))) S (v_si (v_si S 0 14 x) 143 0 x) := fr_i (fr_i fr_r rfl) rfl
  refine ⟨⟨rfl, i17, i18⟩, ⟨i15, i16⟩, ⟨T, tok, tx, tm⟩, ⟨L, by_, px1, pm1⟩, ?_, ⟨k, hk3, k13, k23, fun j hj => ?_⟩, lv, lr⟩
  · exact City_fr ci F (by omega) (fun k j h1 h2 => decide_eq_false (by omega)) (fun j h1 h2 => decide_eq_false (by omega)) (fun j h1 h2 => decide_eq_false (by omega)) (fun j h1 h2 => decide_eq_false (by omega))
  · exact City_fr (mk j hj) F (by omega) (fun k q h1 h2 => decide_eq_false (by omega)) (fun q h1 h2 => decide_eq_false (by omega)) (fun q h1 h2 => decide_eq_false (by omega)) (fun q h1 h2 => decide_eq_false (by omega))
