/-! a text by lists of bytes: its tokens -/
def b_C (B : List Nat) (j : Nat) : Nat := B.getD j 0
def b_t (A R : List Nat) : List aK := a_tl (b_C (A ++ R)) (A.length + R.length) A.length
theorem bC_at {A R : List Nat} (j : Nat) : b_C (A ++ R) (A.length + j) = R.getD j 0 := by
  unfold b_C
  rw [List.getD_eq_getElem?_getD, List.getElem?_append_right (by omega), Nat.add_sub_cancel_left, ← List.getD_eq_getElem?_getD]
theorem getD_l {w R : List Nat} {j : Nat} (h : j < w.length) : (w ++ R).getD j 0 = w.getD j 0 := by
  rw [List.getD_eq_getElem?_getD, List.getElem?_append_left h, ← List.getD_eq_getElem?_getD]
theorem getD_r {w R : List Nat} (j : Nat) : (w ++ R).getD (w.length + j) 0 = R.getD j 0 := bC_at j
theorem bt_nil (A : List Nat) : b_t A [] = [(0, A.length, 0)] := by
  unfold b_t
  rw [tl_end (show A.length + ([] : List Nat).length ≤ A.length from Nat.le_refl _)]
  rfl
theorem bt_cut (A w R : List Nat) : b_t (A ++ w) R = a_tl (b_C (A ++ (w ++ R))) (A.length + (w ++ R).length) (A.length + w.length) := by
  unfold b_t
  rw [List.append_assoc, List.length_append, List.length_append, Nat.add_assoc]
theorem bt_sp (A R : List Nat) : b_t A (32 :: R) = b_t (A ++ [32]) R := by
  have h : b_C (A ++ 32 :: R) A.length = 32 := bC_at (R := 32 :: R) 0
  rw [bt_cut A [32] R]
  show a_tl (b_C (A ++ 32 :: R)) (A.length + (32 :: R).length) A.length = a_tl (b_C (A ++ 32 :: R)) (A.length + (32 :: R).length) (A.length + 1)
  rw [tl_s (by simp), h]
  exact if_pos rfl
theorem bt_semi (A R : List Nat) : b_t A (59 :: R) = (6, A.length, 59) :: b_t (A ++ [59]) R := by
  have h : b_C (A ++ 59 :: R) A.length = 59 := bC_at (R := 59 :: R) 0
  rw [bt_cut A [59] R]
  show a_tl (b_C (A ++ 59 :: R)) (A.length + (59 :: R).length) A.length = (6, A.length, 59) :: a_tl (b_C (A ++ 59 :: R)) (A.length + (59 :: R).length) (A.length + 1)
  have e1 : a_tok1 (b_C (A ++ 59 :: R)) (A.length + (59 :: R).length) A.length = (6, A.length, 59) := by
    unfold a_tok1; rw [h]; rfl
  have e2 : a_nxt (b_C (A ++ 59 :: R)) (A.length + (59 :: R).length) A.length = A.length + 1 := by
    unfold a_nxt; rw [h]; rfl
  rw [tl_s (by simp), h, if_neg (by decide), e1, e2]
theorem re_run (p : Nat → Bool) (C : Nat → Nat) : ∀ l k i, l ≤ k → (∀ j, j < l → p (C (i + j)) = true) → (l < k → p (C (i + l)) = false) → a_re p C k i = i + l
  | 0, 0, i, _, _, _ => rfl
  | 0, k + 1, i, _, _, h => by
    have h : p (C i) = false := h (by omega)
    unfold a_re
    rw [h]
    rfl
  | l + 1, 0, i, h, _, _ => absurd h (by omega)
  | l + 1, k + 1, i, h, h1, h2 => by
    have h0 : p (C i) = true := h1 0 (by omega)
    unfold a_re
    rw [h0, if_pos rfl, re_run p C l k (i + 1) (by omega) (fun j hj => by rw [show i + 1 + j = i + (j + 1) by omega]; exact h1 (j + 1) (by omega)) (fun hl => by rw [show i + 1 + l = i + (l + 1) by omega]; exact h2 (by omega))]
    omega
theorem bt_run (A w R : List Nat) (p : Nat → Bool) (hl : ∀ j, j < w.length → p (w.getD j 0) = true) (hs : p (R.getD 0 0) = false) : a_re p (b_C (A ++ (w ++ R))) (A.length + (w ++ R).length - A.length) A.length = A.length + w.length := by
  refine re_run p _ _ _ _ (by rw [List.length_append]; omega) (fun j hj => ?_) (fun _ => ?_)
  · rw [bC_at, getD_l hj]; exact hl j hj
  · rw [bC_at, show w.length = w.length + 0 from rfl, getD_r]; exact hs
theorem bt_word (A w R : List Nat) (hw : 0 < w.length) (hl : ∀ j, j < w.length → a_isl (w.getD j 0) = true) (hs : a_isl (R.getD 0 0) = false) : b_t A (w ++ R) = a_wtk (b_C (A ++ (w ++ R))) A.length w.length :: b_t (A ++ w) R := by
  have hr := bt_run A w R a_isl hl hs
  have h0 : b_C (A ++ (w ++ R)) A.length = w.getD 0 0 := by
    have := bC_at (A := A) (R := w ++ R) 0
    rw [getD_l hw] at this
    exact this
  have h1 := hl 0 hw
  have hb : ¬ a_isb (w.getD 0 0) = true := by
    have h1 := of_decide_eq_true h1
    unfold a_isb
    rw [decide_eq_true_iff]
    omega
  rw [bt_cut]
  show a_tl (b_C (A ++ (w ++ R))) (A.length + (w ++ R).length) A.length = _
  rw [tl_s (by rw [List.length_append]; omega), h0, if_neg hb]
  have e1 : a_tok1 (b_C (A ++ (w ++ R))) (A.length + (w ++ R).length) A.length = a_wtk (b_C (A ++ (w ++ R))) A.length w.length := by
    unfold a_tok1; rw [h0, h1, if_pos rfl, hr, Nat.add_sub_cancel_left]
  have e2 : a_nxt (b_C (A ++ (w ++ R))) (A.length + (w ++ R).length) A.length = A.length + w.length := by
    unfold a_nxt; rw [h0, h1, if_pos rfl, hr]
  rw [e1, e2]
theorem bt_digs (A w R : List Nat) (hw : 0 < w.length) (h4 : w.length ≤ 4) (hl : ∀ j, j < w.length → a_isd (w.getD j 0) = true) (hs : a_isd (R.getD 0 0) = false) : b_t A (w ++ R) = (5, A.length, a_num (b_C (A ++ (w ++ R))) A.length w.length) :: b_t (A ++ w) R := by
  have hr := bt_run A w R a_isd hl hs
  have h0 : b_C (A ++ (w ++ R)) A.length = w.getD 0 0 := by
    have := bC_at (A := A) (R := w ++ R) 0
    rw [getD_l hw] at this
    exact this
  have h1 := hl 0 hw
  have h1' := of_decide_eq_true h1
  have hb : ¬ a_isb (w.getD 0 0) = true := by
    unfold a_isb
    rw [decide_eq_true_iff]
    omega
  have hn : ¬ a_isl (w.getD 0 0) = true := by
    unfold a_isl
    rw [decide_eq_true_iff]
    omega
  rw [bt_cut]
  show a_tl (b_C (A ++ (w ++ R))) (A.length + (w ++ R).length) A.length = _
  rw [tl_s (by rw [List.length_append]; omega), h0, if_neg hb]
  have e1 : a_tok1 (b_C (A ++ (w ++ R))) (A.length + (w ++ R).length) A.length = (5, A.length, a_num (b_C (A ++ (w ++ R))) A.length w.length) := by
    unfold a_tok1; rw [h0, if_neg hn, h1, if_pos rfl, hr, Nat.add_sub_cancel_left]
    unfold a_ntk
    rw [if_neg (by omega)]
  have e2 : a_nxt (b_C (A ++ (w ++ R))) (A.length + (w ++ R).length) A.length = A.length + w.length := by
    unfold a_nxt; rw [h0, if_neg hn, h1, if_pos rfl, hr]
  rw [e1, e2]
theorem cd2_eq {d e : Nat → Nat} : ∀ l, (∀ j, j < l → d j = e j) → a_cd2 d l = a_cd2 e l
  | 0, _ => rfl
  | l + 1, h => by
    show a_cd2 d l * 32 + d l = a_cd2 e l * 32 + e l
    rw [cd2_eq l (fun j hj => h j (by omega)), h l (by omega)]
theorem num_eq {C C' : Nat → Nat} {i i' : Nat} : ∀ l, (∀ j, j < l → C (i + j) = C' (i' + j)) → a_num C i l = a_num C' i' l
  | 0, _ => rfl
  | l + 1, h => by
    show a_num C i l * 10 + (C (i + l) - 48) = a_num C' i' l * 10 + (C' (i' + l) - 48)
    rw [num_eq l (fun j hj => h j (by omega)), h l (by omega)]
theorem wtk_eq {C C' : Nat → Nat} {i l : Nat} (h : ∀ j, j < l → C (i + j) = C' (0 + j)) : a_wtk C i l = ((a_wtk C' 0 l).1, i, (a_wtk C' 0 l).2.2) := by
  have e1 : a_km C i l = a_km C' 0 l := by
    funext q
    unfold a_km
    rw [decide_eq_decide]
    constructor
    · rintro ⟨rfl, g⟩
      exact ⟨rfl, fun j hj => (h j hj).symm.trans (g j hj)⟩
    · rintro ⟨rfl, g⟩
      exact ⟨rfl, fun j hj => (h j hj).trans (g j hj)⟩
  have e2 : a_code C i l = a_code C' 0 l := by
    unfold a_code
    exact cd2_eq l (fun j hj => by rw [h j hj])
  unfold a_wtk
  rw [e1, e2]
  cases v_first (a_km C' 0 l) 22 with
  | some q => rfl
  | none =>
    by_cases c : 8 < l
    · simp only [c, if_true]
    · simp only [c, if_false]
/-- a word that is known -/
def b_wk (w : List Nat) : Nat × Nat × Nat := a_wtk (fun j => w.getD j 0) 0 w.length
theorem bt_w (A w R : List Nat) {k v : Nat} (hw : 0 < w.length) (hl : ∀ j, j < w.length → a_isl (w.getD j 0) = true) (hk : b_wk w = (k, 0, v)) (hs : a_isl (R.getD 0 0) = false) : b_t A (w ++ R) = (k, A.length, v) :: b_t (A ++ w) R := by
  rw [bt_word A w R hw hl hs, wtk_eq (C' := fun j => w.getD j 0) (fun j hj => by rw [bC_at, getD_l hj, Nat.zero_add])]
  unfold b_wk at hk
  rw [hk]
def b_dig (v : Nat) : List Nat := (if 999 < v then [48 + v / 1000] else []) ++ ((if 99 < v then [48 + v / 100 % 10] else []) ++ ((if 9 < v then [48 + v / 10 % 10] else []) ++ [48 + v % 10]))
theorem dig_ok : ∀ v, v < 1000 → 0 < (b_dig v).length ∧ (b_dig v).length ≤ 4 ∧ (∀ j, j < (b_dig v).length → a_isd ((b_dig v).getD j 0) = true) ∧ a_num (fun j => (b_dig v).getD j 0) 0 (b_dig v).length = v := by decide +kernel
theorem bt_n (A R : List Nat) {v : Nat} (hv : v < 1000) (hs : a_isd (R.getD 0 0) = false) : b_t A (b_dig v ++ R) = (5, A.length, v) :: b_t (A ++ b_dig v) R := by
  obtain ⟨h1, h2, h3, h4⟩ := dig_ok v hv
  have e : a_num (b_C (A ++ (b_dig v ++ R))) A.length (b_dig v).length = v := by
    rw [num_eq (C' := fun j => (b_dig v).getD j 0) (i' := 0) _ (fun j hj => by rw [bC_at, getD_l hj, Nat.zero_add])]
    exact h4
  rw [bt_digs A _ R h1 h2 h3 hs, e]
/-- the names of persons and deeds -/
def b_nm (s k : Nat) : List Nat := [s, 97 + k]
def b_nc (s k : Nat) : Nat := (s - 96) * 32 + (1 + k)
theorem nm_ok : ∀ s, (s = 112 ∨ s = 100) → ∀ k, k < 5 → b_wk (b_nm s k) = (3, 0, b_nc s k) ∧ ∀ j, j < 2 → a_isl ((b_nm s k).getD j 0) = true := by
  rintro s (rfl | rfl) <;> decide +kernel
