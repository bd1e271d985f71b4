/-! the law's invariant: what stands between its calls -/
def b_I (S : vSt) (m : Nat → Int32) : Prop := a_ok m ∧ a_R S 10 m ∧ S.1 144 0 = nI (a_P m) ∧ S.1 0 13 = 0 ∧ S.1 25 8 = 0 ∧ a_J m ≤ 5 ∧ a_P m ≤ 4
theorem I_fr {S S' : vSt} {m : Nat → Int32} {c : Nat → Nat → Bool} (I : b_I S m) (f : a_fr c S S') (h1 : ∀ j, j < 108 → c (10 + (a_xr j).1) (a_xr j).2 = false) (h2 : c 144 0 = false) (h3 : c 0 13 = false) (h4 : c 25 8 = false) : b_I S' m :=
  ⟨I.1, R_fr I.2.1 f h1, (f 144 0 h2).1.trans I.2.2.1, (f 0 13 h3).1.trans I.2.2.2.1, (f 25 8 h4).1.trans I.2.2.2.2.1, I.2.2.2.2.2⟩
theorem I_q {S S' : vSt} {m : Nat → Int32} (I : b_I S m) (f : a_fr a_sxx S S') : b_I S' m := I_fr I f (by decide +kernel) rfl rfl rfl
theorem K_q {α : Type} {S : vSt} {m : Nat → Int32} {K : α → vSt → Prop} {o : α × Int32 × Option (Int64 × Int64)} (I : b_I S m) (h : ∀ S', b_I S' m → K o.1 S') : a_XK S K o := fun S' f _ _ _ => h S' (I_q I f)
theorem K_f {α : Type} {S : vSt} {m : Nat → Int32} {K : α → vSt → Prop} {x : α} {st : Int32} {z : Int} {u : Nat} (I : b_I S m) (h : ∀ S', b_I S' m → b_fr (S'.2 0 17) (S'.2 0 18) z u → K x S') : a_XK S K (x, st, a_frac z u) := fun S' f _ h1 h2 => h S' (I_q I f) ⟨h1, h2⟩
/-! small enough -/
theorem all_20 {m : Nat → Int32} (hJ : a_J m ≤ 5) : a_all m ≤ 2 ^ 20 := by
  have h : 16 ^ a_J m ≤ 16 ^ 5 := Nat.pow_le_pow_right (by omega) hJ
  have e : (16 : Nat) ^ 5 = 2 ^ 20 := by decide
  unfold a_all
  omega
theorem sm_loss {m : Nat → Int32} (ok : a_ok m) (hJ : a_J m ≤ 5) {p d : Nat} (hd : d < a_D m) : b_sm (a_loss m p d : Int) := by
  have h1 := loss_le (p := p) ok hd
  have h2 := all_20 hJ
  have h3 : a_all m * 999 ≤ 2 ^ 20 * 999 := Nat.mul_le_mul_right _ h2
  unfold b_sm; omega
theorem sm_gain {m : Nat → Int32} (ok : a_ok m) (hJ : a_J m ≤ 5) {p d : Nat} (hd : d < a_D m) : b_sm (a_gain m p d) := by
  have h0 := gain_le (p := p) ok hd
  have h1 := loss_le (p := p) ok hd
  have h2 := all_20 hJ
  have h3 : a_all m * 999 ≤ 2 ^ 20 * 999 := Nat.mul_le_mul_right _ h2
  unfold b_sm; omega
theorem da_34 {m : Nat → Int32} (ok : a_ok m) (hJ : a_J m ≤ 5) (p : Nat) : a_da m p ≤ 2 ^ 34 := by
  have h2 := all_20 hJ
  have h3 : a_all m * 999 ≤ 2 ^ 20 * 999 := Nat.mul_le_mul_right _ h2
  have h4 : a_da m p ≤ a_D m * (a_all m * 999) := sum_bd _ (fun j hj => own_le ok hj)
  have h5 : a_D m * (a_all m * 999) ≤ 10 * (2 ^ 20 * 999) := Nat.mul_le_mul (ok_D10 ok) h3
  omega
theorem sm_da {m : Nat → Int32} (ok : a_ok m) (hJ : a_J m ≤ 5) (p : Nat) : b_sm (a_da m p : Int) := by
  have := da_34 ok hJ p
  unfold b_sm; omega
theorem sm_ds {m : Nat → Int32} (ok : a_ok m) (hJ : a_J m ≤ 5) (q : Nat) : b_sm (a_ds m q (a_P m) : Int) := by
  have h4 : a_ds m q (a_P m) ≤ a_P m * 2 ^ 34 := sum_bd _ (fun j _ => by
    have := da_34 ok hJ j
    split <;> omega)
  have h5 : a_P m * 2 ^ 34 ≤ 8 * 2 ^ 34 := Nat.mul_le_mul_right _ (ok_P8 ok)
  unfold b_sm; omega
theorem top_bd {c : Int} (hc : 0 ≤ c) : ∀ n (a : Nat → Int), (∀ j, a j ≤ c) → 0 ≤ a_top n a ∧ a_top n a ≤ n * c
  | 0, _, _ => ⟨Int.le_refl _, by rw [show a_top 0 _ = (0 : Int) from rfl]; omega⟩
  | n + 1, a, h => by
    obtain ⟨h1, h2⟩ := top_bd hc n (a_up a (a_amx a 9) 0) (fun j => by unfold a_up; split; exact hc; exact h j)
    have h3 := h (a_amx a 9)
    have e : ((n + 1 : Nat) : Int) * c = (n : Int) * c + c := by rw [Int.natCast_add, Int.add_mul]; omega
    show 0 ≤ max 0 (a (a_amx a 9)) + a_top n (a_up a (a_amx a 9) 0) ∧ max 0 (a (a_amx a 9)) + a_top n (a_up a (a_amx a 9) 0) ≤ _
    rw [e]
    omega
theorem pg_le {m : Nat → Int32} (ok : a_ok m) (p d : Nat) : a_pg m p d ≤ ((a_all m * 999 : Nat) : Int) := by
  unfold a_pg
  split
  · next h =>
    have h0 := (gain_le (p := p) ok h.1).2
    have h1 := loss_le (p := p) ok h.1
    omega
  · omega
theorem sm_plan {m : Nat → Int32} (ok : a_ok m) (hJ : a_J m ≤ 5) (p : Nat) {n : Nat} (hn : n ≤ 10) : 0 ≤ a_plan m p n ∧ b_sm (a_plan m p n) := by
  have h2 := all_20 hJ
  have h3 : a_all m * 999 ≤ 2 ^ 20 * 999 := Nat.mul_le_mul_right _ h2
  obtain ⟨h4, h5⟩ := top_bd (c := ((a_all m * 999 : Nat) : Int)) (by omega) n (a_pg m p) (pg_le ok p)
  have h6 : (n : Int) * ((a_all m * 999 : Nat) : Int) ≤ 10 * ((a_all m * 999 : Nat) : Int) := Int.mul_le_mul_of_nonneg_right (by omega) (by omega)
  refine ⟨h4, ?_⟩
  unfold b_sm a_plan
  omega
theorem sm_pl {m : Nat → Int32} (ok : a_ok m) (hJ : a_J m ≤ 5) (p o : Nat) {k : Nat} (hk : k ≤ 2) : b_sm (a_pl m p o k true 0) := by
  have h2 := all_20 hJ
  have h3 : a_all m * 999 ≤ 2 ^ 20 * 999 := Nat.mul_le_mul_right _ h2
  have h := pl_bd ok p o k true 0
  have hB : a_B m ≤ 2 * (2 ^ 20 * 999) := by unfold a_B; omega
  have hk2 : a_kB m k ≤ 2 * (2 * (2 ^ 20 * 999)) := by
    rcases (show k = 0 ∨ k = 1 ∨ k = 2 by omega) with rfl | rfl | rfl
    · show (0 : Int) ≤ _; omega
    · show (0 : Int) + a_B m ≤ _; omega
    · show (0 : Int) + a_B m + a_B m ≤ _; omega
  unfold b_sm
  omega
