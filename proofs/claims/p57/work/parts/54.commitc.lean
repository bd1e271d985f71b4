/-! commit -/
theorem commit_c {m : Nat → Int32} {x y z : Int32} (ok : a_ok m) : ((o_commit m x y z).2.2.2 = none ∧ (o_commit m x y z).2.2.1 = m) ∨ (a_D m < 10 ∧ (o_commit m x y z).2.2.2 = some (a_D m) ∧ a_ok (o_commit m x y z).2.2.1 ∧ a_P (o_commit m x y z).2.2.1 = a_P m ∧ a_D (o_commit m x y z).2.2.1 = a_D m + 1 ∧ ∀ j, 108 ≤ j → (o_commit m x y z).2.2.1 j = m j) := by
  have h8 := ok_P8 ok
  unfold o_commit
  by_cases g : a_one m x = true
  · rw [if_pos g]
    by_cases g2 : a_in 1 999 y = true ∧ a_in 0 16 z = true
    · rw [if_pos g2]
      by_cases c : a_D m < 10
      · rw [if_pos c]
        have g := of_decide_eq_true g
        rw [ok_m0 ok] at g
        obtain ⟨p, hp, rfl, -⟩ := nI_cut (N := a_P m) (by omega) g.1 g.2
        have q := of_decide_eq_true g2.1
        obtain ⟨f, hf, rfl, -⟩ := a_in_t (x := y) (n := 999) rfl (by omega) (decide_eq_true ⟨Int32.le_trans (by decide) q.1, q.2⟩)
        have f1 : 1 ≤ f := (nI_leI (a := 1) (by omega) (by omega)).mp q.1
        obtain ⟨o, ho, rfl, -⟩ := a_in_t (n := 16) rfl (by omega) g2.2
        obtain ⟨eP, eD⟩ := cmt_PD (p := nI p) (f := nI f) (o := nI o) ok
        refine Or.inr ⟨c, rfl, ok_cmt ok c hp (a_nb_nI (by omega) f1 hf) (a_nb_nI (by omega) (by omega) ho), ?_, ?_, fun j hj => cmt_hi (by omega) c (by omega) (by omega) (by omega)⟩
        · exact eP
        · exact eD
      · rw [if_neg c]
        exact Or.inl ⟨rfl, rfl⟩
    · rw [if_neg g2]
      exact Or.inl ⟨rfl, rfl⟩
  · rw [if_neg g]
    exact Or.inl ⟨rfl, rfl⟩
