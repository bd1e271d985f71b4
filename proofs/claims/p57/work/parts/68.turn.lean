/-! what is done in a round keeps it -/
theorem I_u {S S' : vSt} {m m' : Nat → Int32} {c : Nat → Nat → Bool} (I : b_I S m) (f : a_fr c S S') (h1 : c 144 0 = false) (h2 : c 0 13 = false) (h3 : c 25 8 = false) (ok : a_ok m') (R : a_R S' 10 m') (hP : a_P m' = a_P m) (hJ : m' 2 = m 2) : b_I S' m' := by
  refine ⟨ok, R, ?_, (f 0 13 h2).1.trans I.2.2.2.1, (f 25 8 h3).1.trans I.2.2.2.2.1, ?_, ?_⟩
  · rw [hP]; exact (f 144 0 h1).1.trans I.2.2.1
  · have : a_J m' = a_J m := by unfold a_J; rw [hJ]
    rw [this]; exact I.2.2.2.2.2.1
  · rw [hP]; exact I.2.2.2.2.2.2
/-- a city that came of another one: so many COINS at most are moved -/
def b_T (S : vSt) (m : Nat → Int32) (c t : Int) (s : Int32) : Prop := b_I S m ∧ b_Z m (a_P m) c t s
theorem T_u {S S' : vSt} {m m' : Nat → Int32} {f : Nat → Nat → Bool} {c t c' t' : Int} {s : Int32} (T : b_T S m c t s) (F : a_fr f S S') (h1 : f 144 0 = false) (h2 : f 0 13 = false) (h3 : f 25 8 = false) (R : a_R S' 10 m') (ok : a_ok m') (hP : a_P m' = a_P m) (hJ : m' 2 = m 2) (Z : b_Z m' (a_P m) c' t' s) : b_T S' m' c' t' s := ⟨I_u T.1 F h1 h2 h3 ok R hP hJ, by rw [hP]; exact Z⟩
theorem b_charge {S : vSt} {m : Nat → Int32} {x y z : Int32} {K : Int32 → vSt → Prop} {c t : Int} {s : Int32} (T : b_T S m c t s) (hc : c + 2000 ≤ 99999) (ht : t + 1000 ≤ 99999) (h : ∀ r S' m', b_T S' m' (c + 2000) (t + 1000) s → a_P m' = a_P m → a_D m' = a_D m → K r S') : p_X10_charge S x y z K := by
  have ok := T.1.1
  have h8 := ok_P8 ok
  refine x_charge ok T.1.2.1 (fun S' f R' _ => ?_)
  have hk := kp_charge (x := x) (y := y) (z := z) ok
  have key : b_Z (o_charge m x y z).2.2 (a_P m) (c + 2000) (t + 1000) s ∧ (o_charge m x y z).2.2 2 = m 2 := by
    unfold o_charge
    split
    · next g =>
      obtain ⟨g1, g2⟩ := (Bool.and_eq_true _ _).mp g
      have hp := (kp_one ok g1).1
      have hd := (kp_two ok g2).1
      have ho := (ok_o ok hd).2
      split
      · split
        · exact ⟨Z_hear ok hp hd T.2 hc ht, hear_ne (by omega) (by omega) (by omega) (by omega) (by omega) (by omega) (by omega) (by omega) (by omega)⟩
        · exact ⟨Z_w T.2 (by omega) (by omega), rfl⟩
      · exact ⟨Z_w T.2 (by omega) (by omega), rfl⟩
    · exact ⟨Z_w T.2 (by omega) (by omega), rfl⟩
  exact h _ S' _ (T_u T f rfl rfl rfl R' hk.1 hk.2.1 key.2 key.1) hk.2.1 hk.2.2.1
theorem b_drop {S : vSt} {m : Nat → Int32} {x y : Int32} {k : Nat} {K : Int32 → vSt → Prop} {c t : Int} {s : Int32} (T : b_T S m c t s) (hk : k ≤ 999) (hc : c + 2000 ≤ 99999) (h : ∀ r S' m', b_T S' m' (c + 2000) (t + 1000) s → a_P m' = a_P m → a_D m' = a_D m → K r S') : p_X10_drop S x y (nI k) K := by
  have ok := T.1.1
  have h8 := ok_P8 ok
  refine x_drop ok T.1.2.1 (fun S' f R' _ => ?_)
  have hkp := kp_drop (x := x) (y := y) (z := nI k) ok
  have key : b_Z (o_drop m x y (nI k)).2.2 (a_P m) (c + 2000) (t + 1000) s ∧ (o_drop m x y (nI k)).2.2 2 = m 2 := by
    unfold o_drop
    split
    · next g =>
      obtain ⟨g1, g2⟩ := (Bool.and_eq_true _ _).mp g
      have hp := (kp_one ok g1).1
      have hd := (kp_two ok g2).1
      have ho := (ok_o ok hd).2
      split
      · split
        · exact ⟨Z_w (Z_drop ok hp hd hk T.2 hc) (by omega) (by omega), drp_ne (by omega) (by omega) (by omega)⟩
        · exact ⟨Z_w T.2 (by omega) (by omega), rfl⟩
      · exact ⟨Z_w T.2 (by omega) (by omega), rfl⟩
    · exact ⟨Z_w T.2 (by omega) (by omega), rfl⟩
  exact h _ S' _ (T_u T f rfl rfl rfl R' hkp.1 hkp.2.1 key.2 key.1) hkp.2.1 hkp.2.2.1
theorem b_reopen {S : vSt} {m : Nat → Int32} {x : Int32} {K : Bool → vSt → Prop} {c t : Int} {s : Int32} (T : b_T S m c t s) (h : ∀ r S' m', b_T S' m' c t s → a_P m' = a_P m → a_D m' = a_D m → K r S') : p_X10_reopen S x K := by
  have ok := T.1.1
  have h8 := ok_P8 ok
  refine x_reopen ok T.1.2.1 (fun S' f R' _ => ?_)
  have hkp := kp_reopen (x := x) ok
  have key : b_Z (o_reopen m x).2.2 (a_P m) c t s ∧ (o_reopen m x).2.2 2 = m 2 := by
    unfold o_reopen
    split
    · split
      · exact ⟨T.2, rfl⟩
      · exact ⟨Z_eq T.2 (opk_lo (j := 6) (by omega) (by omega)) (fun q hq => opk_lo (j := 8 + q) (by omega) (by omega)), opk_lo (j := 2) (by omega) (by omega)⟩
    · exact ⟨T.2, rfl⟩
  exact h _ S' _ (T_u T f rfl rfl rfl R' hkp.1 hkp.2.1 key.2 key.1) hkp.2.1 hkp.2.2.1
theorem b_commit {S : vSt} {m : Nat → Int32} {x y z : Int32} {K : Int32 → vSt → Prop} {c t : Int} {s : Int32} (T : b_T S m c t s) (h : ∀ r S' m', b_T S' m' c t s → a_P m' = a_P m → K r S') : p_X10_commit S x y z K := by
  have ok := T.1.1
  have h8 := ok_P8 ok
  refine x_commit ok T.1.2.1 (fun S' f R' _ _ => ?_)
  have key : b_Z (o_commit m x y z).2.2.1 (a_P m) c t s ∧ (o_commit m x y z).2.2.1 2 = m 2 := by
    unfold o_commit
    split
    · split
      · split
        · exact ⟨Z_eq T.2 (cmt_lo (j := 6) (by omega) (by omega) (by omega) (by omega) (by omega)) (fun q hq => cmt_lo (j := 8 + q) (by omega) (by omega) (by omega) (by omega) (by omega)), cmt_lo (j := 2) (by omega) (by omega) (by omega) (by omega) (by omega)⟩
        · exact ⟨T.2, rfl⟩
      · exact ⟨T.2, rfl⟩
    · exact ⟨T.2, rfl⟩
  have hP : a_P (o_commit m x y z).2.2.1 = a_P m ∧ a_ok (o_commit m x y z).2.2.1 := by
    rcases commit_c (x := x) (y := y) (z := z) ok with ⟨-, e⟩ | ⟨-, -, q1, q2, -, -⟩
    · rw [e]; exact ⟨rfl, ok⟩
    · exact ⟨q2, q1⟩
  exact h _ S' _ (T_u T f rfl rfl rfl R' hP.2 hP.1 key.2 key.1) hP.1
/-! what hear leaves, behind a mark -/
theorem M_u {S S' : vSt} {m m1 m2 : Nat → Int32} (M : b_M S m m1) (f : a_fr a_cx S S') (ok : a_ok m2) (R : a_R S' 10 m2) : b_M S' m m2 :=
  ⟨ok, R, R_fr M.2.2.1 f (by decide +kernel), (f 144 0 rfl).1.trans M.2.2.2.1, (f 0 13 rfl).1.trans M.2.2.2.2.1, (f 92 8 rfl).1.trans M.2.2.2.2.2⟩
theorem one_t {m : Nat → Int32} {p : Nat} (ok : a_ok m) (hp : p < a_P m) : a_one m (nI p) = true := by
  have h8 := ok_P8 ok
  unfold a_one
  rw [ok_m0 ok]
  exact decide_eq_true ⟨nI_pos (by omega), nI_ge hp (by omega)⟩
theorem two_t {m : Nat → Int32} {d : Nat} (ok : a_ok m) (hd : d < a_D m) : a_two m (nI d) = true := by
  have h8 := ok_D10 ok
  unfold a_two
  rw [ok_m1 ok]
  exact decide_eq_true ⟨nI_pos (by omega), nI_ge hd (by omega)⟩
theorem in_t {n lo hi : Nat} (h1 : lo ≤ n) (h2 : n ≤ hi) (hh : hi < 2 ^ 31) : a_in (nI lo) (nI hi) (nI n) = true := decide_eq_true ⟨nI_le h1 (by omega), nI_le h2 hh⟩
theorem hear_78 {m : Nat → Int32} {p d v : Nat} (ok : a_ok m) (hp : p < a_P m) (hd : d < a_D m) : a_hear m p d v (78 + d) = (if a_J m < 2 * v then 1 else 2) ∧ a_hear m p d v (88 + d) = nI p ∧ a_hear m p d v (98 + d) = nI v := by
  have h8 := ok_P8 ok
  have h10 := ok_D10 ok
  have ho := (ok_o ok hd).2
  have base : ∀ x, a_hd m p d v x (78 + d) = x ∧ a_hd m p d v x (88 + d) = nI p ∧ a_hd m p d v x (98 + d) = nI v := fun x => ⟨hd3_78, hd3_88, hd3_98⟩
  unfold a_hear
  by_cases c1 : a_J m < 2 * v
  · rw [if_pos c1, if_pos c1]
    unfold a_hw
    obtain ⟨b1, b2, b3⟩ := base 1
    refine ⟨?_, ?_, ?_⟩
    · rw [pays_ne (by omega), pays_ne (by omega), pays_ne (by omega), inc_ne (by omega)]; exact b1
    · rw [pays_ne (by omega), pays_ne (by omega), pays_ne (by omega), inc_ne (by omega)]; exact b2
    · rw [pays_ne (by omega), pays_ne (by omega), pays_ne (by omega), inc_ne (by omega)]; exact b3
  · rw [if_neg c1, if_neg c1]
    obtain ⟨b1, b2, b3⟩ := base 2
    by_cases c2 : v < a_F m
    · rw [if_pos c2]
      unfold a_ho
      refine ⟨?_, ?_, ?_⟩
      · rw [pays_ne (by omega), pays_ne (by omega), inc_ne (by omega)]; exact b1
      · rw [pays_ne (by omega), pays_ne (by omega), inc_ne (by omega)]; exact b2
      · rw [pays_ne (by omega), pays_ne (by omega), inc_ne (by omega)]; exact b3
    · rw [if_neg c2]
      exact ⟨b1, b2, b3⟩
theorem b_hear {S : vSt} {m : Nat → Int32} {p d sd : Nat} {K : Int32 → vSt → Prop} (M : b_M S m m) (hp : p < a_P m) (hd : d < a_D m) (hs : sd ≤ 9999) (h1 : a_can m p d = false → ∀ S', b_M S' m m → K (-1) S') (h2 : ∀ v, v ≤ 9 → a_can m p d = true → ∀ S', b_M S' m (a_hear m p d v) → K (nI v) S') : p_X10_hear S (nI p) (nI d) (nI sd) K := by
  have ok := M.1
  have h8 := ok_P8 ok
  have h10 := ok_D10 ok
  refine x_hear ok M.2.1 (fun S' f R' _ => ?_)
  unfold o_hear at R' ⊢
  rw [one_t ok hp, two_t ok hd, a_n_nI (by omega), a_n_nI (by omega), a_n_nI (by omega)] at R' ⊢
  rw [if_pos (by rfl), if_pos (show a_in 0 9999 (nI sd) = true from in_t (lo := 0) (hi := 9999) (by omega) hs (by omega))] at R' ⊢
  by_cases c : a_can m p d = true
  · rw [if_pos c] at R' ⊢
    have hv := vo_le ok (p := p) (d := d) (s := sd) (by omega)
    exact h2 _ hv c S' (M_u M f (ok_hear ok hp hd (by omega)) R')
  · rw [if_neg c] at R' ⊢
    rw [Bool.not_eq_true] at c
    exact h1 c S' (M_u M f ok R')
