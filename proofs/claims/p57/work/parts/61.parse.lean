/-! a city's text, as the law lays it, read -/
def b_k (q : Nat) : List Nat := (List.range (a_kl q)).map (a_kch q)
theorem k_ok : ∀ q, q < 22 → 0 < (b_k q).length ∧ b_wk (b_k q) = (2, 0, q) ∧ ∀ j, j < (b_k q).length → a_isl ((b_k q).getD j 0) = true := by decide +kernel
theorem bt_k (A R : List Nat) {q : Nat} (hq : q < 22) (hs : a_isl (R.getD 0 0) = false) : b_t A (b_k q ++ R) = (2, A.length, q) :: b_t (A ++ b_k q) R := by
  obtain ⟨h1, h2, h3⟩ := k_ok q hq
  exact bt_w A _ R h1 h3 h2 hs
theorem bt_nm (A R : List Nat) {s k : Nat} (h : s = 112 ∨ s = 100) (hk : k < 5) (hs : a_isl (R.getD 0 0) = false) : b_t A (b_nm s k ++ R) = (3, A.length, b_nc s k) :: b_t (A ++ b_nm s k) R := by
  obtain ⟨h1, h2⟩ := nm_ok s h k hk
  exact bt_w A _ R (by show 0 < 2; omega) h2 h1 hs
def b_rule (q v : Nat) (R : List Nat) : List Nat := b_k q ++ (32 :: (b_dig v ++ (59 :: R)))
def b_per (p c k : Nat) (R : List Nat) : List Nat := b_k 4 ++ (32 :: (b_nm 112 p ++ (32 :: (b_k 5 ++ (32 :: (b_dig c ++ (32 :: (b_k 6 ++ (32 :: (b_dig k ++ (59 :: R)))))))))))
def b_dee (d o f w : Nat) (R : List Nat) : List Nat := b_k 7 ++ (32 :: (b_nm 100 d ++ (32 :: (b_k 8 ++ (32 :: (b_nm 112 o ++ (32 :: (b_k 9 ++ (32 :: (b_dig f ++ (32 :: (b_k 10 ++ (32 :: (b_dig w ++ (59 :: R)))))))))))))))
theorem bt_rule (A R : List Nat) {q v : Nat} (hq : q < 22) (hv : v < 1000) : ∃ i1 i2 i3 A', b_t A (b_rule q v R) = (2, i1, q) :: (5, i2, v) :: (6, i3, 59) :: b_t A' R := by
  unfold b_rule
  rw [bt_k _ _ hq rfl, bt_sp, bt_n _ _ hv rfl, bt_semi]
  exact ⟨_, _, _, _, rfl⟩
theorem bt_per (A R : List Nat) {p c k : Nat} (hp : p < 5) (hc : c < 1000) (hk : k < 1000) : ∃ i1 i2 i3 i4 i5 i6 i7 A', b_t A (b_per p c k R) = (2, i1, 4) :: (3, i2, b_nc 112 p) :: (2, i3, 5) :: (5, i4, c) :: (2, i5, 6) :: (5, i6, k) :: (6, i7, 59) :: b_t A' R := by
  unfold b_per
  rw [bt_k _ _ (by omega) rfl, bt_sp, bt_nm _ _ (Or.inl rfl) hp rfl, bt_sp, bt_k _ _ (by omega) rfl, bt_sp, bt_n _ _ hc rfl, bt_sp, bt_k _ _ (by omega) rfl, bt_sp, bt_n _ _ hk rfl, bt_semi]
  exact ⟨_, _, _, _, _, _, _, _, rfl⟩
theorem bt_dee (A R : List Nat) {d o f w : Nat} (hd : d < 5) (ho : o < 5) (hf : f < 1000) (hw : w < 1000) : ∃ i1 i2 i3 i4 i5 i6 i7 i8 i9 A', b_t A (b_dee d o f w R) = (2, i1, 7) :: (3, i2, b_nc 100 d) :: (2, i3, 8) :: (3, i4, b_nc 112 o) :: (2, i5, 9) :: (5, i6, f) :: (2, i7, 10) :: (5, i8, w) :: (6, i9, 59) :: b_t A' R := by
  unfold b_dee
  rw [bt_k _ _ (by omega) rfl, bt_sp, bt_nm _ _ (Or.inr rfl) hd rfl, bt_sp, bt_k _ _ (by omega) rfl, bt_sp, bt_nm _ _ (Or.inl rfl) ho rfl, bt_sp, bt_k _ _ (by omega) rfl, bt_sp, bt_n _ _ hf rfl, bt_sp, bt_k _ _ (by omega) rfl, bt_sp, bt_n _ _ hw rfl, bt_semi]
  exact ⟨_, _, _, _, _, _, _, _, _, _, rfl⟩
/-! statement by statement -/
theorem b_nu {lo hi v i : Nat} {R : List aK} (h : lo ≤ v ∧ v ≤ hi) : a_nu lo hi ((5, i, v) :: R) = .inr (v, R) := (if_pos (show (a_h0 ((5, i, v) :: R)).1 = 5 from rfl)).trans (if_pos h)
theorem b_opt {q lo hi d v i i2 : Nat} {R : List aK} (h : lo ≤ v ∧ v ≤ hi) : a_opt q lo hi d ((2, i, q) :: (5, i2, v) :: R) = .inr (v, R) := (if_pos (show a_is (2, i, q) q = true from decide_eq_true ⟨rfl, rfl⟩)).trans (b_nu h)
theorem b_newn {m : Nat → Int32} {nm : Nat → Nat} {v i : Nat} {R : List aK} (h1 : a_pb m nm v = none) (h2 : a_db m nm v = none) : a_newn m nm ((3, i, v) :: R) = .inr (v, R) := (if_pos (show (a_h0 ((3, i, v) :: R)).1 = 3 from rfl)).trans (if_pos ⟨h1, h2⟩)
theorem b_own2 {m : Nat → Int32} {nm : Nat → Nat} {v i p : Nat} {R : List aK} (h1 : a_pb m nm v = some p) : a_own2 m nm ((3, i, v) :: R) = .inr (p, R) := by
  refine (if_pos (show (a_h0 ((3, i, v) :: R)).1 = 3 from rfl)).trans ?_
  show (match a_pb m nm v with
  | some p => (Sum.inr (p, R) : aF ⊕ (Nat × List aK))
  | none => .inl (3, i)) = _
  rw [h1]
theorem b_wd {i q : Nat} {R : List aK} : a_wd (a_is (2, i, q) q) ((2, i, q) :: R) = .inr R := if_pos (decide_eq_true ⟨rfl, rfl⟩)
theorem b_wd2 {i q : Nat} {L : List aK} : a_wd (a_is (a_h0 ((2, i, q) :: L)) q) ((2, i, q) :: L) = .inr L := b_wd
theorem b_wdn {i i2 q lo hi v : Nat} {L : List aK} (h : lo ≤ v ∧ v ≤ hi) : a_wdn q lo hi ((2, i, q) :: (5, i2, v) :: L) = .inr (v, L) := by
  show a_bi (a_wd (a_is (a_h0 ((2, i, q) :: (5, i2, v) :: L)) q) ((2, i, q) :: (5, i2, v) :: L)) (a_nu lo hi) = _
  rw [b_wd2]
  exact b_nu h
theorem b_semi {i : Nat} {R : List aK} : a_semi ((6, i, 59) :: R) = .inr R := by
  show a_wd (decide ((6 : Nat) = 6 ∧ (59 : Nat) = 59)) ((6, i, 59) :: R) = .inr R
  rfl
theorem b_bi {α β : Type} {a : α} {f : α → aF ⊕ β} : a_bi (.inr a) f = f a := rfl
theorem ps_ok1 {s : aS} {i : Nat} {R : List aK} : a_ps (.inr (s, (6, i, 59) :: R)) = .inr (s, R) := by
  show a_bi (a_semi ((6, i, 59) :: R)) (fun R' => .inr (s, R')) = _
  rw [b_semi]
  rfl
theorem ps_rule {s : aS} {w v i1 i2 i3 : Nat} {R : List aK} (hw : w < 4) (hb : s.2.2.testBit w = false) (hv : a_n (a_rlo w) ≤ v ∧ v ≤ a_n (a_rhi w)) : a_ps (a_rpt s ((2, i1, w) :: (5, i2, v) :: (6, i3, 59) :: R)) = .inr ((a_set s.1 (2 + w) (nI v), s.2.1, s.2.2 ||| 2 ^ w), R) := by
  have e : a_rpt s ((2, i1, w) :: (5, i2, v) :: (6, i3, 59) :: R) = a_rru w s ((2, i1, w) :: (5, i2, v) :: (6, i3, 59) :: R) := (if_pos (show (a_h0 ((2, i1, w) :: (5, i2, v) :: (6, i3, 59) :: R)).1 = 2 from rfl)).trans (if_pos hw)
  rw [e]
  unfold a_rru
  rw [if_neg (by rw [hb]; decide)]
  show a_ps (a_bi (a_nu (a_n (a_rlo w)) (a_n (a_rhi w)) ((5, i2, v) :: (6, i3, 59) :: R)) _) = _
  rw [b_nu hv]
  exact ps_ok1
theorem ps_per {s : aS} {n v k i1 i2 i3 i4 i5 i6 i7 : Nat} {R : List aK} (hP : ¬ a_P s.1 = 8) (h1 : a_pb s.1 s.2.1 n = none) (h2 : a_db s.1 s.2.1 n = none) (hv : v ≤ 9999) (hk : k ≤ 16) : a_ps (a_rpt s ((2, i1, 4) :: (3, i2, n) :: (2, i3, 5) :: (5, i4, v) :: (2, i5, 6) :: (5, i6, k) :: (6, i7, 59) :: R)) = .inr ((a_adp s.1 (nI v) (nI k), a_up2 s.2.1 (a_P s.1) n, s.2.2), R) := by
  have e : a_rpt s ((2, i1, 4) :: (3, i2, n) :: (2, i3, 5) :: (5, i4, v) :: (2, i5, 6) :: (5, i6, k) :: (6, i7, 59) :: R) = a_rpe s ((2, i1, 4) :: (3, i2, n) :: (2, i3, 5) :: (5, i4, v) :: (2, i5, 6) :: (5, i6, k) :: (6, i7, 59) :: R) := (if_pos (show (a_h0 ((2, i1, 4) :: (3, i2, n) :: (2, i3, 5) :: (5, i4, v) :: (2, i5, 6) :: (5, i6, k) :: (6, i7, 59) :: R)).1 = 2 from rfl)).trans ((if_neg (show ¬ 4 < 4 by omega)).trans (if_pos (show 4 = 4 from rfl)))
  rw [e]
  unfold a_rpe
  rw [if_neg hP]
  show a_ps (a_bi (a_newn s.1 s.2.1 ((3, i2, n) :: (2, i3, 5) :: (5, i4, v) :: (2, i5, 6) :: (5, i6, k) :: (6, i7, 59) :: R)) _) = _
  rw [b_newn h1 h2]
  show a_ps (a_bi (a_opt 5 0 9999 100 ((2, i3, 5) :: (5, i4, v) :: (2, i5, 6) :: (5, i6, k) :: (6, i7, 59) :: R)) _) = _
  rw [b_opt ⟨Nat.zero_le _, hv⟩]
  show a_ps (a_bi (a_opt 6 0 16 0 ((2, i5, 6) :: (5, i6, k) :: (6, i7, 59) :: R)) _) = _
  rw [b_opt ⟨Nat.zero_le _, hk⟩]
  exact ps_ok1
theorem ps_dee {s : aS} {n o p f w i1 i2 i3 i4 i5 i6 i7 i8 i9 : Nat} {R : List aK} (hD : ¬ a_D s.1 = 10) (h1 : a_pb s.1 s.2.1 n = none) (h2 : a_db s.1 s.2.1 n = none) (ho : a_pb s.1 s.2.1 o = some p) (hf : 1 ≤ f ∧ f ≤ 999) (hw : w ≤ 16) : a_ps (a_rpt s ((2, i1, 7) :: (3, i2, n) :: (2, i3, 8) :: (3, i4, o) :: (2, i5, 9) :: (5, i6, f) :: (2, i7, 10) :: (5, i8, w) :: (6, i9, 59) :: R)) = .inr ((a_cm1 s.1 (nI p) (nI f) (nI w), a_up2 s.2.1 (8 + a_D s.1) n, s.2.2), R) := by
  have e : a_rpt s ((2, i1, 7) :: (3, i2, n) :: (2, i3, 8) :: (3, i4, o) :: (2, i5, 9) :: (5, i6, f) :: (2, i7, 10) :: (5, i8, w) :: (6, i9, 59) :: R) = a_rde s ((2, i1, 7) :: (3, i2, n) :: (2, i3, 8) :: (3, i4, o) :: (2, i5, 9) :: (5, i6, f) :: (2, i7, 10) :: (5, i8, w) :: (6, i9, 59) :: R) := (if_pos (show (a_h0 ((2, i1, 7) :: (3, i2, n) :: (2, i3, 8) :: (3, i4, o) :: (2, i5, 9) :: (5, i6, f) :: (2, i7, 10) :: (5, i8, w) :: (6, i9, 59) :: R)).1 = 2 from rfl)).trans ((if_neg (show ¬ 7 < 4 by omega)).trans ((if_neg (show ¬ 7 = 4 by omega)).trans (if_pos (show 7 = 7 from rfl))))
  rw [e]
  unfold a_rde
  rw [if_neg hD]
  show a_ps (a_bi (a_newn s.1 s.2.1 ((3, i2, n) :: (2, i3, 8) :: (3, i4, o) :: (2, i5, 9) :: (5, i6, f) :: (2, i7, 10) :: (5, i8, w) :: (6, i9, 59) :: R)) _) = _
  rw [b_newn h1 h2, b_bi, b_wd2, b_bi, b_own2 ho, b_bi, b_wdn hf, b_bi, b_wdn ⟨Nat.zero_le _, hw⟩, b_bi]
  exact ps_ok1
theorem rcy_step {s s' : aS} {t : aK} {R R' : List aK} {k : Nat} (hk : (t :: R).length ≤ k) (h0 : t.1 ≠ 0) (hs : a_ps (a_rpt s (t :: R)) = .inr (s', R')) (hl : R'.length ≤ R.length) : ∃ k', R'.length ≤ k' ∧ a_rcy k s (t :: R) = a_rcy k' s' R' := by
  obtain ⟨k, rfl⟩ : ∃ q, k = q + 1 := ⟨k - 1, by have : (t :: R).length = R.length + 1 := rfl; omega⟩
  refine ⟨k, by have : (t :: R).length = R.length + 1 := rfl; omega, ?_⟩
  show (if (a_h0 (t :: R)).1 = 0 then _ else a_bi (a_ps (a_rpt s (t :: R))) (fun g => a_rcy k g.1 g.2)) = _
  rw [if_neg (show ¬ (a_h0 (t :: R)).1 = 0 from h0), hs]
  rfl
theorem rcy_end {s : aS} {i j : Nat} (k : Nat) : a_rcy k s [(0, i, j)] = .inr s := by
  cases k with
  | zero => rfl
  | succ k => exact if_pos (show (a_h0 [(0, i, j)]).1 = 0 from rfl)
