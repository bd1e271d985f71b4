/-! THE LAW: a text is put, byte by byte, twenty at a time -/
theorem cv_b {x : Int32} {b : Nat} (hb : b < 256) (h : ∀ i, i < 8 → bt x i = b.testBit i) : a_cv x = b := by
  refine Nat.eq_of_testBit_eq (fun i => ?_)
  unfold a_cv
  rw [show (256 : Nat) = 2 ^ 8 from rfl, Nat.testBit_mod_two_pow]
  by_cases c : i < 8
  · rw [decide_eq_true c, Bool.true_and, ← h i c]
    rfl
  · have h2 : 2 ^ 8 ≤ 2 ^ i := Nat.pow_le_pow_right (by omega) (by omega)
    rw [decide_eq_false c, Nat.testBit_lt_two_pow (show b < 2 ^ i by omega)]
    rfl
theorem bt_byt {a : Int32} {k i : Nat} (hi : i < 8) (h : k + i < 32) : bt (a_byt a (nI k)) i = bt a (k + i) := by
  unfold a_byt
  rw [pk_vb]
  have e1 : ∀ z : Int32, bt (z.toInt8.toInt32) i = bt z i := fun z => by
    unfold bt
    rw [Int8.toBitVec_toInt32, Int32.toBitVec_toInt8, BitVec.getLsbD_signExtend, if_pos (by omega), BitVec.getLsbD_signExtend, if_pos (by omega)]
    simp [show i < 32 by omega, show i < 8 by omega]
  rw [e1, b_sshr k (by omega) a (by omega), if_pos h]
/-- four bytes in an int -/
def b_4 (b : Nat → Nat) (k : Nat) : Int32 := (((nI (b k) <<< ((24 : Int32) &&& 31)) ||| (nI (b (k + 1)) <<< ((16 : Int32) &&& 31))) ||| (nI (b (k + 2)) <<< ((8 : Int32) &&& 31))) ||| nI (b (k + 3))
theorem hi_0 {b i : Nat} (hb : b < 256) (hi : 8 ≤ i) : b.testBit i = false := by
  have h2 : 2 ^ 8 ≤ 2 ^ i := Nat.pow_le_pow_right (by omega) hi
  exact Nat.testBit_lt_two_pow (by omega)
theorem bt_4 {b : Nat → Nat} {k i : Nat} (hi : i < 32) : bt (b_4 b k) i = (((decide (24 ≤ i) && (b k).testBit (i - 24)) || (decide (16 ≤ i) && (b (k + 1)).testBit (i - 16))) || (decide (8 ≤ i) && (b (k + 2)).testBit (i - 8)) || (b (k + 3)).testBit i) := by
  unfold b_4
  rw [b_or, b_or, b_or, b_shl24 _ hi, b_shl16 _ hi, b_shl8 _ hi, bt_nI (by omega), bt_nI (by omega), bt_nI (by omega), bt_nI hi]
theorem cv_4 {b : Nat → Nat} {k : Nat} (hb : ∀ j, j < 4 → b (k + j) < 256) : ∀ j, j < 4 → a_cv (a_byt (b_4 b k) (nI (24 - 8 * j))) = b (k + j) := by
  intro j hj
  have h0 := hb 0 (by omega)
  have h1 := hb 1 (by omega)
  have h2 := hb 2 (by omega)
  have h3 := hb 3 (by omega)
  refine cv_b (hb j hj) (fun i hi => ?_)
  rw [bt_byt hi (by omega), bt_4 (by omega)]
  rcases (show j = 0 ∨ j = 1 ∨ j = 2 ∨ j = 3 by omega) with rfl | rfl | rfl | rfl
  · rw [decide_eq_true (show 24 ≤ 24 - 8 * 0 + i by omega), hi_0 h1 (show 8 ≤ 24 - 8 * 0 + i - 16 by omega), hi_0 h2 (show 8 ≤ 24 - 8 * 0 + i - 8 by omega), hi_0 h3 (show 8 ≤ 24 - 8 * 0 + i by omega), show 24 - 8 * 0 + i - 24 = i by omega]
    simp
  · rw [decide_eq_false (show ¬ 24 ≤ 24 - 8 * 1 + i by omega), decide_eq_true (show 16 ≤ 24 - 8 * 1 + i by omega), hi_0 h2 (show 8 ≤ 24 - 8 * 1 + i - 8 by omega), hi_0 h3 (show 8 ≤ 24 - 8 * 1 + i by omega), show 24 - 8 * 1 + i - 16 = i by omega]
    simp
  · rw [decide_eq_false (show ¬ 24 ≤ 24 - 8 * 2 + i by omega), decide_eq_false (show ¬ 16 ≤ 24 - 8 * 2 + i by omega), decide_eq_true (show 8 ≤ 24 - 8 * 2 + i by omega), hi_0 h3 (show 8 ≤ 24 - 8 * 2 + i by omega), show 24 - 8 * 2 + i - 8 = i by omega]
    simp
  · rw [decide_eq_false (show ¬ 24 ≤ 24 - 8 * 3 + i by omega), decide_eq_false (show ¬ 16 ≤ 24 - 8 * 3 + i by omega), decide_eq_false (show ¬ 8 ≤ 24 - 8 * 3 + i by omega), show 24 - 8 * 3 + i = i by omega]
    simp
theorem fd4_ne {by_ : Nat → Int32} {L i : Nat} {a : Int32} (h : i < L ∨ L + 4 ≤ i) : a_fd4 by_ L a i = by_ i := by
  unfold a_fd4
  rw [a_set_ne (by omega), a_set_ne (by omega), a_set_ne (by omega), a_set_ne (by omega)]
theorem fd4_at {by_ : Nat → Int32} {L : Nat} {a : Int32} : ∀ j, j < 4 → a_fd4 by_ L a (L + j) = a_byt a (nI (24 - 8 * j)) := by
  intro j hj
  unfold a_fd4
  rcases (show j = 0 ∨ j = 1 ∨ j = 2 ∨ j = 3 by omega) with rfl | rfl | rfl | rfl
  · rw [a_set_ne (by omega), a_set_ne (by omega), a_set_ne (by omega)]; exact a_set_eq
  · rw [a_set_ne (by omega), a_set_ne (by omega)]; exact a_set_eq
  · rw [a_set_ne (by omega)]; exact a_set_eq
  · exact a_set_eq
/-- twenty bytes behind the tape -/
theorem fdd_ok {by_ : Nat → Int32} {L : Nat} {b : Nat → Nat} (hb : ∀ j, j < 20 → b j < 256) : (∀ i, i < L → a_fdd by_ L (b_4 b 0) (b_4 b 4) (b_4 b 8) (b_4 b 12) (b_4 b 16) i = by_ i) ∧ ∀ j, j < 20 → a_cv (a_fdd by_ L (b_4 b 0) (b_4 b 4) (b_4 b 8) (b_4 b 12) (b_4 b 16) (L + j)) = b j := by
  unfold a_fdd
  refine ⟨fun i hi => ?_, fun j hj => ?_⟩
  · rw [fd4_ne (by omega), fd4_ne (by omega), fd4_ne (by omega), fd4_ne (by omega), fd4_ne (by omega)]
  · have k0 := cv_4 (b := b) (k := 0) (fun j hj => hb (0 + j) (by omega))
    have k4 := cv_4 (b := b) (k := 4) (fun j hj => hb (4 + j) (by omega))
    have k8 := cv_4 (b := b) (k := 8) (fun j hj => hb (8 + j) (by omega))
    have k12 := cv_4 (b := b) (k := 12) (fun j hj => hb (12 + j) (by omega))
    have k16 := cv_4 (b := b) (k := 16) (fun j hj => hb (16 + j) (by omega))
    by_cases c0 : j < 4
    · rw [fd4_ne (by omega), fd4_ne (by omega), fd4_ne (by omega), fd4_ne (by omega), fd4_at j c0, k0 j c0, Nat.zero_add]
    by_cases c1 : j < 8
    · obtain ⟨i, rfl⟩ : ∃ i, j = 4 + i := ⟨j - 4, by omega⟩
      rw [fd4_ne (by omega), fd4_ne (by omega), fd4_ne (by omega), ← Nat.add_assoc, fd4_at i (by omega), k4 i (by omega)]
    by_cases c2 : j < 12
    · obtain ⟨i, rfl⟩ : ∃ i, j = 8 + i := ⟨j - 8, by omega⟩
      rw [fd4_ne (by omega), fd4_ne (by omega), ← Nat.add_assoc, fd4_at i (by omega), k8 i (by omega)]
    by_cases c3 : j < 16
    · obtain ⟨i, rfl⟩ : ∃ i, j = 12 + i := ⟨j - 12, by omega⟩
      rw [fd4_ne (by omega), ← Nat.add_assoc, fd4_at i (by omega), k12 i (by omega)]
    · obtain ⟨i, rfl⟩ : ∃ i, j = 16 + i := ⟨j - 16, by omega⟩
      rw [← Nat.add_assoc, fd4_at i (by omega), k16 i (by omega)]
theorem v24 {j : Nat} (h : j < 24) : vp_in (nI j) 24 := vpin ⟨h, by omega⟩
theorem x_four {S : vSt} {b : Nat → Nat} {k : Nat} {K : Int32 → vSt → Prop} (hk : k + 3 < 24) (h : ∀ j, j < 4 → S.1 143 (k + j) = nI (b (k + j))) (hK : K (b_4 b k) S) : p_L_four S (nI k) K := by
  have h0 : S.1 143 k = nI (b k) := h 0 (by omega)
  unfold p_L_four
  rw [show nI k + 1 = nI (k + 1) from nI_add k 1, show nI k + 2 = nI (k + 2) from nI_add k 2, show nI k + 3 = nI (k + 3) from nI_add k 3, ncl (by omega), ncl (by omega), ncl (by omega), ncl (by omega), h0, h 1 (by omega), h 2 (by omega), h 3 (by omega)]
  exact ⟨v24 (by omega), v24 (by omega), v24 (by omega), v24 (by omega), hK⟩
/-- the law's own cells that change, and the tape -/
def b_fp (k j : Nat) : Bool := decide ((k = 143 ∧ j ≤ 21) ∨ (k = 5 ∧ j = 1) ∨ k = 6)
theorem fdx_fp : ∀ k j, b_fp k j = false → a_fdx k j = false := by
  intro k j h
  unfold b_fp at h
  unfold a_fdx
  rw [decide_eq_false_iff_not] at h ⊢
  omega
theorem w_feed {S : vSt} {r L : Nat} {by_ : Nat → Int32} {b : Nat → Nat} {K : vSt → Prop} (tp : a_TpX S L by_) (hL : L + 20 ≤ 900) (hr : r ≤ 20) (h20 : S.1 143 20 = nI r) (h1 : ∀ j, j < r → S.1 143 j = nI (b j)) (h2 : ∀ j, r ≤ j → j < 20 → b j = 32) (hb : ∀ j, j < 20 → b j < 256) (hK : ∀ S' by', a_fr b_fp S S' → S'.1 143 20 = 0 → S'.1 143 21 = S.1 143 21 → a_TpX S' (L + 20) by' → (∀ i, i < L → by' i = by_ i) → (∀ j, j < 20 → a_cv (by' (L + j)) = b j) → K S') : p_L_feed S K := by
  unfold p_L_feed
  rw [show Int32.toNatClampNeg 20 = 20 from by decide]
  refine ⟨v24 (j := 20) (by omega), ?_⟩
  rintro _ rfl
  rw [h20]
  have key := v_loop (fun fu i S' => p_L_feed_5 K fu S' (nI (r + i))) (fun i S' => a_fr b_fp S S' ∧ S'.1 143 20 = nI r ∧ S'.1 143 21 = S.1 143 21 ∧ S'.1 5 1 = S.1 5 1 ∧ (∀ j, S'.1 6 j = S.1 6 j) ∧ ∀ j, j < r + i → S'.1 143 j = nI (b j)) (20 - r) (fun fu i S' hi hI hk => ?_) (fun fu S' hI => ?_) S ⟨fr_r, h20, rfl, rfl, fun _ => rfl, h1⟩
  · exact key
  · obtain ⟨f, g20, g21, g5, g6, g⟩ := hI
    rw [e_L_feed_5]
    refine ⟨fun w => absurd w (nI_ge (b := 20) (by omega) (by omega)), fun _ => ⟨v24 (by omega), ?_⟩⟩
    rintro _ rfl _ rfl
    rw [nIs, ncl (by omega), Nat.add_assoc]
    refine hk _ ⟨fr_i f (decide_eq_true (by omega)), ?_, ?_, g5, g6, fun j hj => ?_⟩
    · rw [si1, if_neg (by omega)]; exact g20
    · rw [si1, if_neg (by omega)]; exact g21
    · rw [si1]
      by_cases c : j = r + i
      · rw [if_pos ⟨rfl, c⟩, c, h2 (r + i) (by omega) (by omega)]
        rfl
      · rw [if_neg (fun w => c w.2)]; exact g j (by omega)
  · obtain ⟨f, g20, g21, g5, g6, g⟩ := hI
    rw [show r + (20 - r) = 20 by omega] at g ⊢
    have tp' : a_TpX S' L by_ := ⟨tp.1, g5.trans tp.2.1, fun j hj => (g6 j).trans (tp.2.2 j hj)⟩
    obtain ⟨q1, q2⟩ := fdd_ok (by_ := by_) (L := L) hb
    rw [e_L_feed_5]
    refine ⟨fun _ => ?_, fun w => absurd (Int32.le_refl _) w⟩
    refine x_four (k := 0) (by omega) (fun j hj => g (0 + j) (by omega)) ?_
    refine x_four (k := 4) (by omega) (fun j hj => g (4 + j) (by omega)) ?_
    refine x_four (k := 8) (by omega) (fun j hj => g (8 + j) (by omega)) ?_
    refine x_four (k := 12) (by omega) (fun j hj => g (12 + j) (by omega)) ?_
    refine x_four (k := 16) (by omega) (fun j hj => g (16 + j) (by omega)) ?_
    refine x_feed tp' (fun w => absurd hL w) (fun _ S2 f2 t2 => ⟨v24 (j := 20) (by omega), ?_⟩)
    rintro _ rfl
    rw [show Int32.toNatClampNeg 20 = 20 from by decide]
    refine hK _ _ (fr_i (fr_t f (fr_w f2 fdx_fp)) rfl) si_at ?_ ⟨t2.1, ?_, fun j hj => ?_⟩ q1 q2
    · rw [si1, if_neg (by omega), (f2 143 21 rfl).1]; exact g21
    · rw [si1, if_neg (by omega)]; exact t2.2.1
    · rw [si1, if_neg (by omega)]; exact t2.2.2 j hj
