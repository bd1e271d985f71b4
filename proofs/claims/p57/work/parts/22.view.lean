/-! THE CITY IN THE MIDDLE: m is the model's block of cells; both objects are told by it -/
def a_n (x : Int32) : Nat := x.toNatClampNeg
theorem a_n_nI {n : Nat} (h : n < 2 ^ 31) : a_n (nI n) = n := nI_clamp h
def a_set (m : Nat → Int32) (j : Nat) (x : Int32) : Nat → Int32 := fun i => if i = j then x else m i
theorem a_set_eq {m : Nat → Int32} {j : Nat} {x : Int32} : a_set m j x j = x := if_pos rfl
theorem a_set_ne {m : Nat → Int32} {j i : Nat} {x : Int32} (h : i ≠ j) : a_set m j x i = m i := if_neg h
def a_P (m : Nat → Int32) : Nat := a_n (m 0)
def a_D (m : Nat → Int32) : Nat := a_n (m 1)
theorem a_P_set {m : Nat → Int32} {j : Nat} {x : Int32} (h : 0 ≠ j) : a_P (a_set m j x) = a_P m := by unfold a_P; rw [a_set_ne h]
theorem a_D_set {m : Nat → Int32} {j : Nat} {x : Int32} (h : 1 ≠ j) : a_D (a_set m j x) = a_D m := by unfold a_D; rw [a_set_ne h]
/-- a number that is between -/
def a_nb (x : Int32) (lo hi : Nat) : Prop := x = nI (a_n x) ∧ lo ≤ a_n x ∧ a_n x ≤ hi
theorem a_nb_nI {n lo hi : Nat} (h : n < 2 ^ 31) (h1 : lo ≤ n) (h2 : n ≤ hi) : a_nb (nI n) lo hi := by
  unfold a_nb; rw [a_n_nI h]; exact ⟨rfl, h1, h2⟩
def a_rg (x : Int32) (a b : Int) : Prop := a ≤ x.toInt ∧ x.toInt ≤ b
def a_okP (m : Nat → Int32) (p : Nat) : Prop := a_rg (m (8 + p)) (-99999) 99999 ∧ a_nb (m (16 + p)) 0 16 ∧ a_nb (m (40 + p)) 0 (2 ^ a_D m - 1)
def a_okD (m : Nat → Int32) (d : Nat) : Prop := (a_nb (m (48 + d)) 0 (a_P m - 1) ∧ 0 < a_P m) ∧ a_nb (m (58 + d)) 1 999 ∧ a_nb (m (68 + d)) 0 16 ∧ a_nb (m (78 + d)) 0 2 ∧ (m (78 + d) = 0 → m (88 + d) = -1 ∧ m (98 + d) = -1) ∧ (m (78 + d) ≠ 0 → ¬ m (88 + d) < 0 ∧ ¬ m (98 + d) < 0)
def a_ok (m : Nat → Int32) : Prop := a_nb (m 0) 0 8 ∧ a_nb (m 1) 0 10 ∧ a_nb (m 2) 1 9 ∧ a_nb (m 3) 0 9 ∧ a_nb (m 4) 0 999 ∧ a_nb (m 5) 0 16 ∧ a_nb (m 6) 0 99999 ∧ (∀ p, p < a_P m → a_okP m p) ∧ (∀ d, d < a_D m → a_okD m d)
theorem ok_m0 {m : Nat → Int32} (h : a_ok m) : m 0 = nI (a_P m) := h.1.1
theorem ok_P8 {m : Nat → Int32} (h : a_ok m) : a_P m ≤ 8 := h.1.2.2
theorem ok_m1 {m : Nat → Int32} (h : a_ok m) : m 1 = nI (a_D m) := h.2.1.1
theorem ok_D10 {m : Nat → Int32} (h : a_ok m) : a_D m ≤ 10 := h.2.1.2.2
theorem ok_J {m : Nat → Int32} (h : a_ok m) : a_nb (m 2) 1 9 := h.2.2.1
theorem ok_F {m : Nat → Int32} (h : a_ok m) : a_nb (m 3) 0 9 := h.2.2.2.1
theorem ok_L {m : Nat → Int32} (h : a_ok m) : a_nb (m 4) 0 999 := h.2.2.2.2.1
theorem ok_H {m : Nat → Int32} (h : a_ok m) : a_nb (m 5) 0 16 := h.2.2.2.2.2.1
theorem ok_T {m : Nat → Int32} (h : a_ok m) : a_nb (m 6) 0 99999 := h.2.2.2.2.2.2.1
theorem ok_p {m : Nat → Int32} (h : a_ok m) {p : Nat} (hp : p < a_P m) : a_okP m p := h.2.2.2.2.2.2.2.1 p hp
theorem ok_d {m : Nat → Int32} (h : a_ok m) {d : Nat} (hd : d < a_D m) : a_okD m d := h.2.2.2.2.2.2.2.2 d hd
/-- the owner -/
def a_o (m : Nat → Int32) (d : Nat) : Nat := a_n (m (48 + d))
theorem ok_o {m : Nat → Int32} (h : a_ok m) {d : Nat} (hd : d < a_D m) : m (48 + d) = nI (a_o m d) ∧ a_o m d < a_P m := by
  obtain ⟨⟨⟨h1, h2, h3⟩, h4⟩, -⟩ := ok_d h hd
  refine ⟨h1, ?_⟩
  unfold a_o; omega
/-- where the class keeps the cell j of a city: how far behind the city's object, and which place -/
def a_xr (j : Nat) : Nat × Nat :=
  if j < 1 then (0, 15) else if j < 2 then (0, 16) else if j < 6 then (1, j - 2) else if j < 7 then (0, 17) else if j < 8 then (0, 18)
  else if j < 16 then (3, j - 8) else if j < 24 then (4, j - 16) else if j < 32 then (5, j - 24) else if j < 40 then (6, j - 32) else if j < 48 then (7, j - 40)
  else if j < 58 then (9, j - 48) else if j < 68 then (10, j - 58) else if j < 78 then (11, j - 68) else if j < 88 then (12, j - 78) else if j < 98 then (13, j - 88) else (14, j - 98)
theorem a_xr_inj : ∀ i, i < 108 → ∀ j, j < 108 → (a_xr i).1 = (a_xr j).1 → (a_xr i).2 = (a_xr j).2 → i = j := by decide +kernel
theorem a_xr2 : ∀ j, j < 4 → a_xr (2 + j) = (1, j) := by decide
theorem a_xr8 : ∀ j, j < 8 → a_xr (8 + j) = (3, j) := by decide
theorem a_xr16 : ∀ j, j < 8 → a_xr (16 + j) = (4, j) := by decide
theorem a_xr24 : ∀ j, j < 8 → a_xr (24 + j) = (5, j) := by decide
theorem a_xr32 : ∀ j, j < 8 → a_xr (32 + j) = (6, j) := by decide
theorem a_xr40 : ∀ j, j < 8 → a_xr (40 + j) = (7, j) := by decide
theorem a_xr48 : ∀ j, j < 10 → a_xr (48 + j) = (9, j) := by decide
theorem a_xr58 : ∀ j, j < 10 → a_xr (58 + j) = (10, j) := by decide
theorem a_xr68 : ∀ j, j < 10 → a_xr (68 + j) = (11, j) := by decide
theorem a_xr78 : ∀ j, j < 10 → a_xr (78 + j) = (12, j) := by decide
theorem a_xr88 : ∀ j, j < 10 → a_xr (88 + j) = (13, j) := by decide
theorem a_xr98 : ∀ j, j < 10 → a_xr (98 + j) = (14, j) := by decide
/-- the cells that are alive -/
def a_lv (m : Nat → Int32) (j : Nat) : Prop := j < 8 ∨ (8 ≤ j ∧ j < 48 ∧ (j - 8) % 8 < a_P m) ∨ (48 ≤ j ∧ j < 88 ∧ (j - 48) % 10 < a_D m) ∨ (88 ≤ j ∧ j < 108 ∧ (j - 88) % 10 < a_D m ∧ m (78 + (j - 88) % 10) ≠ 0)
theorem a_lv_lt {m : Nat → Int32} {j : Nat} (h : a_lv m j) : j < 108 := by
  unfold a_lv at h; omega
theorem a_lv_set {m : Nat → Int32} {j i : Nat} {x : Int32} (h0 : 2 ≤ j) (h1 : j < 78) : a_lv (a_set m j x) i ↔ a_lv m i := by
  unfold a_lv
  rw [a_P_set (by omega), a_D_set (by omega), a_set_ne (show 78 + (i - 88) % 10 ≠ j by omega)]
/-- the class's city with its object at b is m -/
def a_R (S : vSt) (b : Nat) (m : Nat → Int32) : Prop := ∀ j, a_lv m j → S.1 (b + (a_xr j).1) (a_xr j).2 = m j
theorem R_at {S : vSt} {b j o i : Nat} {m : Nat → Int32} (h : a_R S b m) (hl : a_lv m j) (hx : a_xr j = (o, i)) : S.1 (b + o) i = m j := by
  have := h j hl
  rw [hx] at this
  exact this
theorem R_0 {S : vSt} {b : Nat} {m : Nat → Int32} (h : a_R S b m) : S.1 b 15 = m 0 := R_at h (Or.inl (by omega)) (o := 0) rfl
theorem R_1 {S : vSt} {b : Nat} {m : Nat → Int32} (h : a_R S b m) : S.1 b 16 = m 1 := R_at h (Or.inl (by omega)) (o := 0) rfl
theorem R_6 {S : vSt} {b : Nat} {m : Nat → Int32} (h : a_R S b m) : S.1 b 17 = m 6 := R_at h (Or.inl (by omega)) (o := 0) rfl
theorem R_7 {S : vSt} {b : Nat} {m : Nat → Int32} (h : a_R S b m) : S.1 b 18 = m 7 := R_at h (Or.inl (by omega)) (o := 0) rfl
theorem R_2 {S : vSt} {b j : Nat} {m : Nat → Int32} (h : a_R S b m) (hj : j < 4) : S.1 (b + 1) j = m (2 + j) := R_at h (Or.inl (by omega)) (a_xr2 j hj)
theorem lv_p {m : Nat → Int32} {p j : Nat} (k : Nat) (hj : j = 8 * k + p) (hk : 1 ≤ k ∧ k ≤ 5) (hp : p < a_P m) (h8 : a_P m ≤ 8) : a_lv m j := by
  unfold a_lv; omega
theorem lv_d {m : Nat → Int32} {d j : Nat} (k : Nat) (hj : j = 48 + 10 * k + d) (hk : k ≤ 3) (hd : d < a_D m) (h8 : a_D m ≤ 10) : a_lv m j := by
  unfold a_lv; omega
theorem lv_b {m : Nat → Int32} {d j : Nat} (k : Nat) (hj : j = 88 + 10 * k + d) (hk : k ≤ 1) (hd : d < a_D m) (h8 : a_D m ≤ 10) (hs : m (78 + d) ≠ 0) : a_lv m j := by
  have e : (j - 88) % 10 = d := by omega
  unfold a_lv
  rw [e]
  refine Or.inr (Or.inr (Or.inr ⟨by omega, by omega, hd, hs⟩))
theorem R_8 {S : vSt} {b p : Nat} {m : Nat → Int32} (h : a_R S b m) (hp : p < a_P m) (h8 : a_P m ≤ 8) : S.1 (b + 3) p = m (8 + p) := R_at h (lv_p 1 rfl (by omega) hp h8) (a_xr8 p (by omega))
theorem R_16 {S : vSt} {b p : Nat} {m : Nat → Int32} (h : a_R S b m) (hp : p < a_P m) (h8 : a_P m ≤ 8) : S.1 (b + 4) p = m (16 + p) := R_at h (lv_p 2 rfl (by omega) hp h8) (a_xr16 p (by omega))
theorem R_24 {S : vSt} {b p : Nat} {m : Nat → Int32} (h : a_R S b m) (hp : p < a_P m) (h8 : a_P m ≤ 8) : S.1 (b + 5) p = m (24 + p) := R_at h (lv_p 3 rfl (by omega) hp h8) (a_xr24 p (by omega))
theorem R_32 {S : vSt} {b p : Nat} {m : Nat → Int32} (h : a_R S b m) (hp : p < a_P m) (h8 : a_P m ≤ 8) : S.1 (b + 6) p = m (32 + p) := R_at h (lv_p 4 rfl (by omega) hp h8) (a_xr32 p (by omega))
theorem R_40 {S : vSt} {b p : Nat} {m : Nat → Int32} (h : a_R S b m) (hp : p < a_P m) (h8 : a_P m ≤ 8) : S.1 (b + 7) p = m (40 + p) := R_at h (lv_p 5 rfl (by omega) hp h8) (a_xr40 p (by omega))
theorem R_48 {S : vSt} {b d : Nat} {m : Nat → Int32} (h : a_R S b m) (hd : d < a_D m) (h8 : a_D m ≤ 10) : S.1 (b + 9) d = m (48 + d) := R_at h (lv_d 0 rfl (by omega) hd h8) (a_xr48 d (by omega))
theorem R_58 {S : vSt} {b d : Nat} {m : Nat → Int32} (h : a_R S b m) (hd : d < a_D m) (h8 : a_D m ≤ 10) : S.1 (b + 10) d = m (58 + d) := R_at h (lv_d 1 rfl (by omega) hd h8) (a_xr58 d (by omega))
theorem R_68 {S : vSt} {b d : Nat} {m : Nat → Int32} (h : a_R S b m) (hd : d < a_D m) (h8 : a_D m ≤ 10) : S.1 (b + 11) d = m (68 + d) := R_at h (lv_d 2 rfl (by omega) hd h8) (a_xr68 d (by omega))
theorem R_78 {S : vSt} {b d : Nat} {m : Nat → Int32} (h : a_R S b m) (hd : d < a_D m) (h8 : a_D m ≤ 10) : S.1 (b + 12) d = m (78 + d) := R_at h (lv_d 3 rfl (by omega) hd h8) (a_xr78 d (by omega))
theorem R_88 {S : vSt} {b d : Nat} {m : Nat → Int32} (h : a_R S b m) (hd : d < a_D m) (h8 : a_D m ≤ 10) (hs : m (78 + d) ≠ 0) : S.1 (b + 13) d = m (88 + d) := R_at h (lv_b 0 rfl (by omega) hd h8 hs) (a_xr88 d (by omega))
theorem R_98 {S : vSt} {b d : Nat} {m : Nat → Int32} (h : a_R S b m) (hd : d < a_D m) (h8 : a_D m ≤ 10) (hs : m (78 + d) ≠ 0) : S.1 (b + 14) d = m (98 + d) := R_at h (lv_b 1 rfl (by omega) hd h8 hs) (a_xr98 d (by omega))
/-- a cell is set -/
theorem R_set {S : vSt} {b j o i : Nat} {m : Nat → Int32} {x : Int32} (h : a_R S b m) (h0 : 2 ≤ j) (h1 : j < 78) (hx : a_xr j = (o, i)) : a_R (v_si S (b + o) i x) b (a_set m j x) := by
  intro k hk
  have hk' := (a_lv_set h0 h1).mp hk
  have hl := a_lv_lt hk'
  rw [si1]
  by_cases e : k = j
  · subst e
    rw [hx, a_set_eq]
    exact if_pos ⟨rfl, rfl⟩
  · rw [a_set_ne e, if_neg, h k hk']
    rintro ⟨e1, e2⟩
    refine e (a_xr_inj k hl j (by omega) ?_ ?_)
    · rw [hx]; exact Nat.add_left_cancel e1
    · rw [hx]; exact e2
/-- a charge is heard: by whom, by how many, and what became of it -/
theorem R_heard {S : vSt} {b d : Nat} {m : Nat → Int32} {x y z : Int32} (h : a_R S b m) (hd : d < 10) : a_R (v_si (v_si (v_si S (b + 13) d y) (b + 14) d z) (b + 12) d x) b (a_set (a_set (a_set m (78 + d) x) (88 + d) y) (98 + d) z) := by
  intro k hk
  have hl := a_lv_lt hk
  rw [si1, si1, si1]
  by_cases e1 : k = 78 + d
  · subst e1
    rw [a_xr78 d hd, a_set_ne (by omega), a_set_ne (by omega), a_set_eq]
    exact if_pos ⟨rfl, rfl⟩
  have n1 : ¬ (b + (a_xr k).1 = b + 12 ∧ (a_xr k).2 = d) := by
    rintro ⟨q1, q2⟩
    exact e1 (a_xr_inj k hl (78 + d) (by omega) (by rw [a_xr78 d hd]; exact Nat.add_left_cancel q1) (by rw [a_xr78 d hd]; exact q2))
  rw [if_neg n1]
  by_cases e2 : k = 98 + d
  · subst e2
    rw [a_xr98 d hd, a_set_eq]
    exact if_pos ⟨rfl, rfl⟩
  have n2 : ¬ (b + (a_xr k).1 = b + 14 ∧ (a_xr k).2 = d) := by
    rintro ⟨q1, q2⟩
    exact e2 (a_xr_inj k hl (98 + d) (by omega) (by rw [a_xr98 d hd]; exact Nat.add_left_cancel q1) (by rw [a_xr98 d hd]; exact q2))
  rw [if_neg n2]
  by_cases e3 : k = 88 + d
  · subst e3
    rw [a_xr88 d hd, a_set_ne (by omega), a_set_eq]
    exact if_pos ⟨rfl, rfl⟩
  have n3 : ¬ (b + (a_xr k).1 = b + 13 ∧ (a_xr k).2 = d) := by
    rintro ⟨q1, q2⟩
    exact e3 (a_xr_inj k hl (88 + d) (by omega) (by rw [a_xr88 d hd]; exact Nat.add_left_cancel q1) (by rw [a_xr88 d hd]; exact q2))
  rw [if_neg n3, a_set_ne e2, a_set_ne e3, a_set_ne e1]
  refine h k ?_
  unfold a_lv at hk ⊢
  rw [a_P_set (by omega), a_P_set (by omega), a_P_set (by omega), a_D_set (by omega), a_D_set (by omega), a_D_set (by omega)] at hk
  rcases hk with q | q | q | ⟨q1, q2, q3, q4⟩
  · exact Or.inl q
  · exact Or.inr (Or.inl q)
  · exact Or.inr (Or.inr (Or.inl q))
  · refine Or.inr (Or.inr (Or.inr ⟨q1, q2, q3, ?_⟩))
    rw [a_set_ne (by omega), a_set_ne (by omega), a_set_ne (by omega)] at q4
    exact q4
/-- a deed is open -/
theorem R_open {S : vSt} {b d : Nat} {m : Nat → Int32} {y z : Int32} (h : a_R S b m) (hd : d < 10) : a_R (v_si S (b + 12) d 0) b (a_set (a_set (a_set m (78 + d) 0) (88 + d) y) (98 + d) z) := by
  intro k hk
  have hl := a_lv_lt hk
  have hne : k ≠ 98 + d ∧ k ≠ 88 + d := by
    unfold a_lv at hk
    constructor
    · rintro rfl
      rcases hk with q | q | q | ⟨q1, q2, q3, q4⟩
      · omega
      · omega
      · omega
      · rw [show (98 + d - 88) % 10 = d by omega, a_set_ne (by omega), a_set_ne (by omega), a_set_eq] at q4
        exact q4 rfl
    · rintro rfl
      rcases hk with q | q | q | ⟨q1, q2, q3, q4⟩
      · omega
      · omega
      · omega
      · rw [show (88 + d - 88) % 10 = d by omega, a_set_ne (by omega), a_set_ne (by omega), a_set_eq] at q4
        exact q4 rfl
  rw [si1]
  by_cases e1 : k = 78 + d
  · subst e1
    rw [a_xr78 d hd, a_set_ne (by omega), a_set_ne (by omega), a_set_eq]
    exact if_pos ⟨rfl, rfl⟩
  have n1 : ¬ (b + (a_xr k).1 = b + 12 ∧ (a_xr k).2 = d) := by
    rintro ⟨q1, q2⟩
    exact e1 (a_xr_inj k hl (78 + d) (by omega) (by rw [a_xr78 d hd]; exact Nat.add_left_cancel q1) (by rw [a_xr78 d hd]; exact q2))
  rw [if_neg n1, a_set_ne hne.1, a_set_ne hne.2, a_set_ne e1]
  refine h k ?_
  unfold a_lv at hk ⊢
  rw [a_P_set (by omega), a_P_set (by omega), a_P_set (by omega), a_D_set (by omega), a_D_set (by omega), a_D_set (by omega)] at hk
  rcases hk with q | q | q | ⟨q1, q2, q3, q4⟩
  · exact Or.inl q
  · exact Or.inr (Or.inl q)
  · exact Or.inr (Or.inr (Or.inl q))
  · refine Or.inr (Or.inr (Or.inr ⟨q1, q2, q3, ?_⟩))
    by_cases e4 : 78 + (k - 88) % 10 = 78 + d
    · rw [e4, a_set_ne (by omega), a_set_ne (by omega), a_set_eq] at q4
      exact absurd rfl q4
    · rw [a_set_ne (by omega), a_set_ne (by omega), a_set_ne e4] at q4
      exact q4
/-! what stays: frames -/
def a_fr (c : Nat → Nat → Bool) (S S' : vSt) : Prop := ∀ k j, c k j = false → S'.1 k j = S.1 k j ∧ S'.2 k j = S.2 k j
theorem fr_r {c : Nat → Nat → Bool} {S : vSt} : a_fr c S S := fun _ _ _ => ⟨rfl, rfl⟩
theorem fr_t {c : Nat → Nat → Bool} {S S1 S2 : vSt} (h : a_fr c S S1) (h1 : a_fr c S1 S2) : a_fr c S S2 := fun k j q => ⟨(h1 k j q).1.trans (h k j q).1, (h1 k j q).2.trans (h k j q).2⟩
theorem fr_i {c : Nat → Nat → Bool} {S0 S : vSt} {k j : Nat} {x : Int32} (h : a_fr c S0 S) (hc : c k j = true) : a_fr c S0 (v_si S k j x) := by
  intro a b q
  refine ⟨?_, (h a b q).2⟩
  rw [si1, if_neg, (h a b q).1]
  rintro ⟨rfl, rfl⟩
  rw [hc] at q
  cases q
theorem fr_l {c : Nat → Nat → Bool} {S0 S : vSt} {k j : Nat} {x : Int64} (h : a_fr c S0 S) (hc : c k j = true) : a_fr c S0 (v_sl S k j x) := by
  intro a b q
  refine ⟨(h a b q).1, ?_⟩
  rw [sl2, if_neg, (h a b q).2]
  rintro ⟨rfl, rfl⟩
  rw [hc] at q
  cases q
theorem fr_w {c c' : Nat → Nat → Bool} {S S' : vSt} (h : a_fr c S S') (hc : ∀ k j, c' k j = false → c k j = false) : a_fr c' S S' := fun k j q => h k j (hc k j q)
/-- the class's rows for what it works out, the city spare among them; the same, with its status and its fraction -/
def a_sx (k j : Nat) : Bool := decide ((31 ≤ k ∧ k ≤ 53) ∨ (55 ≤ k ∧ k ≤ 75) ∨ (7 ≤ k ∧ k ≤ 9) ∨ (k = 5 ∧ 7 ≤ j ∧ j ≤ 12))
def a_sxx (k j : Nat) : Bool := a_sx k j || decide (k = 0 ∧ (j = 14 ∨ j = 17 ∨ j = 18))
/-- the model's -/
def a_sm (k j : Nat) : Bool := decide ((k = 143 ∧ (j = 1 ∨ (12 ≤ j ∧ j ≤ 22) ∨ 24 ≤ j ∧ j ≤ 32 ∨ 34 ≤ j ∧ j ≤ 42)) ∨ k = 149 ∨ (151 ≤ k ∧ k ≤ 153))
def a_smm (k j : Nat) : Bool := a_sm k j || decide (k = 143 ∧ (j = 0 ∨ j = 2 ∨ j = 3))
theorem sx_w : ∀ k j, a_sxx k j = false → a_sx k j = false := fun k j h => (Bool.or_eq_false_iff.mp h).1
theorem sm_w : ∀ k j, a_smm k j = false → a_sm k j = false := fun k j h => (Bool.or_eq_false_iff.mp h).1
/-- a city's own rows in the class: not its names, not its years -/
def a_sc (b k j : Nat) : Bool := decide ((k = b ∧ 15 ≤ j ∧ j ≤ 18) ∨ (b + 1 ≤ k ∧ k ≤ b + 14 ∧ k ≠ b + 2 ∧ k ≠ b + 8))
theorem R_fr {S S' : vSt} {b : Nat} {m : Nat → Int32} {c : Nat → Nat → Bool} (h : a_R S b m) (f : a_fr c S S') (hc : ∀ j, j < 108 → c (b + (a_xr j).1) (a_xr j).2 = false) : a_R S' b m := fun j hj => by
  rw [(f _ _ (hc j (a_lv_lt hj))).1]
  exact h j hj
theorem R_x {S S' : vSt} {m : Nat → Int32} (h : a_R S 10 m) (f : a_fr a_sx S S') : a_R S' 10 m := R_fr h f (by decide +kernel)
theorem R_m {S S' : vSt} {m : Nat → Int32} (h : a_R S 10 m) (f : a_fr a_sm S S') : a_R S' 10 m := R_fr h f (by decide +kernel)
/-- the model's block B is m -/
def a_M (S : vSt) (B : Nat) (m : Nat → Int32) : Prop := ∀ j, j < 380 → S.1 148 (380 * B + j) = m j
theorem M_0 {S : vSt} {m : Nat → Int32} (h : a_M S 0 m) {j : Nat} (hj : j < 380) : S.1 148 j = m j := by
  have := h j hj
  rwa [show 380 * 0 + j = j by omega] at this
theorem M_fr {S S' : vSt} {B : Nat} {m : Nat → Int32} {c : Nat → Nat → Bool} (h : a_M S B m) (f : a_fr c S S') (hc : ∀ j, c 148 j = false) : a_M S' B m := fun j hj => by
  rw [(f _ _ (hc _)).1]
  exact h j hj
theorem M_x {S S' : vSt} {B : Nat} {m : Nat → Int32} (h : a_M S B m) (f : a_fr a_sx S S') : a_M S' B m := M_fr h f (fun j => by simp [a_sx])
theorem M_m {S S' : vSt} {B : Nat} {m : Nat → Int32} (h : a_M S B m) (f : a_fr a_sm S S') : a_M S' B m := M_fr h f (fun j => by simp [a_sm])
theorem M_set {S : vSt} {m : Nat → Int32} {j : Nat} {x : Int32} (h : a_M S 0 m) : a_M (v_si S 148 j x) 0 (a_set m j x) := by
  intro k hk
  rw [si1, show 380 * 0 + k = k by omega]
  unfold a_set
  by_cases e : k = j
  · rw [if_pos ⟨rfl, e⟩, if_pos e]
  · rw [if_neg (fun q => e q.2), if_neg e]
    exact M_0 h hk
