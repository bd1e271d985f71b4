/-! THE LAW: what is said, and the text so far -/
theorem getD_lt {T : List Nat} (h : ∀ x, x ∈ T → x < 256) (i : Nat) : T.getD i 0 < 256 := by
  rw [List.getD_eq_getElem?_getD]
  cases e : T[i]? with
  | none => exact (by decide : 0 < 256)
  | some x => exact h x (List.mem_of_getElem? e)
def b_W (S : vSt) (T : List Nat) : Prop := ∃ q r, T.length = 20 * q + r ∧ r < 20 ∧ (∀ x, x ∈ T → x < 256) ∧ S.1 143 21 = nI (20 * q + r) ∧ S.1 143 20 = nI r ∧ (∀ j, j < r → S.1 143 j = nI (T.getD (20 * q + j) 0)) ∧ ∃ by_, a_TpX S (20 * q) by_ ∧ ∀ j, j < 20 * q → a_cv (by_ j) = T.getD j 0
theorem w_put {S : vSt} {T : List Nat} {c : Nat} {K : vSt → Prop} (W : b_W S T) (hT : T.length ≤ 870) (hc : c < 256) (h : ∀ S', a_fr b_fp S S' → b_W S' (T ++ [c]) → K S') : p_L_put S (nI c) K := by
  obtain ⟨q, r, hn, hr, hb, h21, h20, hm, by_, tp, ht⟩ := W
  have hl : (T ++ [c]).length = 20 * q + (r + 1) := by rw [List.length_append, hn]; rfl
  have hb' : ∀ x, x ∈ T ++ [c] → x < 256 := fun x hx => by
    rcases List.mem_append.mp hx with w | w
    · exact hb x w
    · rw [List.mem_singleton.mp w]; exact hc
  have gl : ∀ j, j < 20 * q + r → (T ++ [c]).getD j 0 = T.getD j 0 := fun j hj => getD_l (by omega)
  have gc : (T ++ [c]).getD (20 * q + r) 0 = c := by rw [← hn]; exact getD_r (w := T) (R := [c]) 0
  unfold p_L_put
  rw [show Int32.toNatClampNeg 20 = 20 from by decide, show Int32.toNatClampNeg 21 = 21 from by decide, h20, ncl (by omega)]
  refine ⟨v24 (j := 20) (by omega), v24 (by omega), ?_⟩
  rintro _ rfl
  have e20 : (v_si S 143 r (nI c)).1 143 20 = nI r := by rw [si1, if_neg (by omega)]; exact h20
  rw [e20, nIs]
  refine ⟨v24 (j := 20) (by omega), v24 (j := 20) (by omega), ?_⟩
  rintro _ rfl
  have e21 : (v_si (v_si S 143 r (nI c)) 143 20 (nI (r + 1))).1 143 21 = nI (20 * q + r) := by rw [si1, if_neg (by omega), si1, if_neg (by omega)]; exact h21
  rw [e21, nIs]
  refine ⟨v24 (j := 21) (by omega), v24 (j := 21) (by omega), ?_⟩
  rintro _ rfl
  have f7 : a_fr b_fp S (v_si (v_si (v_si S 143 r (nI c)) 143 20 (nI (r + 1))) 143 21 (nI (20 * q + r + 1))) := fr_i (fr_i (fr_i fr_r (decide_eq_true (by omega))) rfl) rfl
  have g20 : (v_si (v_si (v_si S 143 r (nI c)) 143 20 (nI (r + 1))) 143 21 (nI (20 * q + r + 1))).1 143 20 = nI (r + 1) := by rw [si1, if_neg (by omega)]; exact si_at
  have g21 : (v_si (v_si (v_si S 143 r (nI c)) 143 20 (nI (r + 1))) 143 21 (nI (20 * q + r + 1))).1 143 21 = nI (20 * q + (r + 1)) := si_at
  have gj : ∀ j, j < r + 1 → (v_si (v_si (v_si S 143 r (nI c)) 143 20 (nI (r + 1))) 143 21 (nI (20 * q + r + 1))).1 143 j = nI ((T ++ [c]).getD (20 * q + j) 0) := fun j hj => by
    rw [si1, if_neg (by omega), si1, if_neg (by omega), si1]
    by_cases e : j = r
    · rw [if_pos ⟨rfl, e⟩, e, gc]
    · rw [if_neg (fun w => e w.2), gl _ (by omega)]; exact hm j (by omega)
  have tp7 : a_TpX (v_si (v_si (v_si S 143 r (nI c)) 143 20 (nI (r + 1))) 143 21 (nI (20 * q + r + 1))) (20 * q) by_ := ⟨tp.1, tp.2.1, tp.2.2⟩
  generalize v_si (v_si (v_si S 143 r (nI c)) 143 20 (nI (r + 1))) 143 21 (nI (20 * q + r + 1)) = S7 at f7 g20 g21 gj tp7 ⊢
  rw [g20]
  refine ⟨v24 (j := 20) (by omega), fun w => ?_, fun w => ?_⟩
  · have hr1 : r + 1 ≠ 20 := fun e => w (by rw [e]; rfl)
    exact h S7 f7 ⟨q, r + 1, hl, by omega, hb', g21, g20, gj, by_, tp7, fun j hj => by rw [gl j (by omega)]; exact ht j hj⟩
  · have hr1 : r + 1 = 20 := (nI_eq (b := 20) (by omega) (by omega)).mp w
    refine w_feed (r := 20) (b := fun j => (T ++ [c]).getD (20 * q + j) 0) tp7 (by omega) (by omega) (by rw [g20, hr1]) (fun j hj => gj j (by omega)) (fun j h1 h2 => absurd h1 (by omega)) (fun j _ => getD_lt hb' _) (fun S8 by' f8 k20 k21 t8 b1 b2 => ?_)
    refine h S8 (fr_t f7 f8) ⟨q + 1, 0, by omega, by omega, hb', ?_, k20, fun j hj => absurd hj (by omega), by', ?_, fun j hj => ?_⟩
    · rw [k21, g21, show 20 * q + (r + 1) = 20 * (q + 1) + 0 by omega]
    · rw [show 20 * (q + 1) = 20 * q + 20 by omega]; exact t8
    · by_cases c1 : j < 20 * q
      · rw [b1 j c1, gl j (by omega)]; exact ht j c1
      · obtain ⟨i, rfl⟩ : ∃ i, j = 20 * q + i := ⟨j - 20 * q, by omega⟩
        exact b2 i (by omega)
/-- the text so far, no longer than N -/
def b_N (S0 S : vSt) (T : List Nat) (N : Nat) : Prop := a_fr b_fp S0 S ∧ b_W S T ∧ T.length ≤ N
theorem n_put {S0 S : vSt} {T : List Nat} {c N : Nat} {K : vSt → Prop} (W : b_N S0 S T N) (hN : N ≤ 870) (hc : c < 256) (h : ∀ S', b_N S0 S' (T ++ [c]) (N + 1) → K S') : p_L_put S (nI c) K :=
  w_put W.2.1 (by have := W.2.2; omega) hc (fun S' f W' => h S' ⟨fr_t W.1 f, W', by have := W.2.2; rw [List.length_append]; show T.length + 1 ≤ N + 1; omega⟩)
/-- the strings -/
def b_s (k : Nat) : List Nat := (v_sbyt.getD k []).map a_n
theorem s_ok : ∀ k, k < 13 → 1 ≤ k → v_slen.getD k 0 = (b_s k).length ∧ (b_s k).length ≤ 8 ∧ ∀ j, j < (b_s k).length → (v_sbyt.getD k []).getD j 0 = nI ((b_s k).getD j 0) ∧ (b_s k).getD j 0 < 256 := by decide +kernel
theorem s_k : b_s 1 = b_k 0 ∧ b_s 2 = 59 :: b_k 1 ∧ b_s 3 = 59 :: b_k 2 ∧ b_s 4 = 59 :: b_k 3 ∧ b_s 5 = [59] ∧ b_s 6 = b_k 4 ∧ b_s 7 = 32 :: b_k 5 ∧ b_s 8 = 32 :: b_k 6 ∧ b_s 9 = b_k 7 ∧ b_s 10 = 32 :: b_k 8 ∧ b_s 11 = 32 :: b_k 9 ∧ b_s 12 = 32 :: b_k 10 := by decide +kernel
theorem take_s : ∀ (l : List Nat) (i : Nat), i < l.length → l.take (i + 1) = l.take i ++ [l.getD i 0]
  | [], i, h => absurd h (Nat.not_lt_zero i)
  | x :: l, 0, _ => rfl
  | x :: l, i + 1, h => by
    show x :: l.take (i + 1) = x :: (l.take i ++ [l.getD i 0])
    rw [take_s l i (Nat.lt_of_succ_lt_succ h)]
theorem n_say {S0 S : vSt} {T : List Nat} {k N : Nat} {K : vSt → Prop} (W : b_N S0 S T N) (hN : N ≤ 860) (h1 : 1 ≤ k) (hk : k < 13) (h : ∀ S', b_N S0 S' (T ++ b_s k) (N + 8) → K S') : p_L_say k S K := by
  obtain ⟨e, l8, hc⟩ := s_ok k hk h1
  unfold p_L_say
  refine v_loop (fun fu i S => p_L_say_2 k K fu S (nI i)) (fun i S => b_N S0 S (T ++ (b_s k).take i) (N + i)) (b_s k).length (fun fu i S hi W hk => ?_) (fun fu S W => ?_) S (by rw [List.take_zero, List.append_nil]; exact W)
  · obtain ⟨c1, c2⟩ := hc i hi
    rw [e_L_say_2, e, ncl (by omega), c1]
    refine ⟨fun w => absurd w (nI_ge hi (by omega)), fun _ => ⟨vpin ⟨hi, by omega⟩, ?_⟩⟩
    refine n_put W (by omega) c2 (fun S' W' => ?_)
    rintro _ rfl
    rw [nIs]
    refine hk S' ?_
    rw [take_s _ i hi, ← List.append_assoc]
    exact W'
  · rw [e_L_say_2, e]
    refine ⟨fun _ => h S ?_, fun w => absurd (Int32.le_refl _) w⟩
    rw [List.take_length] at W
    exact ⟨W.1, W.2.1, by have := W.2.2; omega⟩
theorem dv (v : Nat) (hv : v < 1000) : nI v / 10 = nI (v / 10) ∧ nI v / 100 = nI (v / 100) := ⟨pk_div (d := 10) (by omega) (by omega) (by omega), pk_div (d := 100) (by omega) (by omega) (by omega)⟩
theorem rm (v : Nat) (hv : v < 1000) : (48 : Int32) + (nI v - nI v / 10 * 10) = nI (48 + v % 10) := by
  rw [show nI v - nI v / 10 * 10 = nI (v % 10) from pk_rem (d := 10) (by omega) (by omega) (by omega)]
  exact nI_add 48 _
theorem n_num {S0 S : vSt} {T : List Nat} {v N : Nat} {K : vSt → Prop} (W : b_N S0 S T N) (hN : N ≤ 860) (hv : v < 1000) (h : ∀ S', b_N S0 S' (T ++ (32 :: b_dig v)) (N + 5) → K S') : p_L_number S (nI v) K := by
  obtain ⟨d1, d2⟩ := dv v hv
  have e0 : b_dig v = (if 99 < v then [48 + v / 100 % 10] else []) ++ ((if 9 < v then [48 + v / 10 % 10] else []) ++ [48 + v % 10]) := by
    unfold b_dig
    rw [if_neg (by omega)]
    rfl
  unfold p_L_number
  refine n_put (c := 32) W (by omega) (by omega) (fun S1 W1 => ⟨fun _ => ?_, fun w => absurd (nI_le (b := 999) (by omega) (by omega)) w⟩)
  have k69 : ∀ (T' : List Nat) (S' : vSt), b_N S0 S' T' (N + 4) → T' ++ [48 + v % 10] = T ++ (32 :: b_dig v) → p_L_number_69 (nI v) K S' := fun T' S' W' e => by
    unfold p_L_number_69
    rw [rm v hv]
    refine n_put W' (by omega) (by omega) (fun S2 W2 => h S2 ?_)
    rw [← e]; exact W2
  have up : ∀ (T' : List Nat) (S' : vSt) (M M' : Nat), b_N S0 S' T' M → M ≤ M' → b_N S0 S' T' M' := fun T' S' M M' W' le => ⟨W'.1, W'.2.1, by have := W'.2.2; omega⟩
  have k48 : ∀ (T' : List Nat) (S' : vSt), b_N S0 S' T' (N + 3) → T' ++ ((if 9 < v then [48 + v / 10 % 10] else []) ++ [48 + v % 10]) = T ++ (32 :: b_dig v) → p_L_number_48 (nI v) K S' := fun T' S' W' e => by
    unfold p_L_number_48
    refine ⟨fun w => ?_, fun w => ?_⟩
    · have hv9 : v ≤ 9 := (nI_leI (b := 9) (by omega) (by omega)).mp w
      rw [if_neg (by omega), List.nil_append] at e
      exact k69 T' S' (up _ _ _ _ W' (by omega)) e
    · have hv9 : 9 < v := Nat.lt_of_not_le (fun q => w (nI_le (b := 9) q (by omega)))
      rw [if_pos hv9, ← List.append_assoc] at e
      rw [d1, rm (v / 10) (by omega)]
      exact n_put W' (by omega) (by omega) (fun S2 W2 => k69 _ S2 W2 e)
  unfold p_L_number_27
  refine ⟨fun w => ?_, fun w => ?_⟩
  · have hv9 : v ≤ 99 := (nI_leI (b := 99) (by omega) (by omega)).mp w
    refine k48 _ S1 (up _ _ _ _ W1 (by omega)) ?_
    rw [e0, if_neg (show ¬ 99 < v by omega), List.nil_append, List.append_assoc]
    rfl
  · have hv9 : 99 < v := Nat.lt_of_not_le (fun q => w (nI_le (b := 99) q (by omega)))
    rw [d2, rm (v / 100) (by omega)]
    refine n_put W1 (by omega) (by omega) (fun S2 W2 => k48 _ S2 (up _ _ _ _ W2 (by omega)) ?_)
    rw [e0, if_pos hv9, List.append_assoc, List.append_assoc]
    rfl
theorem n_name {S0 S : vSt} {T : List Nat} {s k N : Nat} {K : vSt → Prop} (W : b_N S0 S T N) (hN : N ≤ 860) (hs : s < 256) (hk : k < 100) (h : ∀ S', b_N S0 S' (T ++ (32 :: b_nm s k)) (N + 3) → K S') : p_L_name S (nI s) (nI k) K := by
  unfold p_L_name
  rw [show (97 : Int32) + nI k = nI (97 + k) from nI_add 97 k]
  refine n_put (c := 32) W (by omega) (by omega) (fun S1 W1 => ?_)
  refine n_put W1 (by omega) hs (fun S2 W2 => ?_)
  refine n_put W2 (by omega) (by omega) (fun S3 W3 => h S3 ?_)
  rw [List.append_assoc, List.append_assoc] at W3
  exact W3
/-- what is said is loaded: a text that is read -/
theorem n_load {S0 S : vSt} {T : List Nat} {N : Nat} {Q : aS → Prop} {K : Int32 → vSt → Prop} (W : b_N S0 S T N) (hN : N ≤ 860) (h22 : S0.1 143 22 = 0) (read : a_wf (b_t [] T) → ∃ s, Q s ∧ a_rcy (b_t [] T).length (a_me, fun _ => 0, 0) (b_t [] T) = .inr s) (h : ∀ s S1 S', Q s → a_fr b_fp S0 S1 → a_fr a_cyc S1 S' → a_R S' 10 s.1 → S'.1 25 8 = 0 → K (nI (a_D s.1)) S') : p_L_load S K := by
  obtain ⟨f, ⟨q, r, hn, hr, hb, h21, h20, hm, by_, tp, ht⟩, hl⟩ := W
  have k17 : ∀ (S1 : vSt) (L : Nat) (by' : Nat → Int32), a_fr b_fp S0 S1 → a_TpX S1 L by' → T.length ≤ L → (∀ j, j < T.length → a_cv (by' j) = T.getD j 0) → p_L_load_17 K S1 (nI T.length) := fun S1 L by' f1 t1 hL hv => by
    have hL9 := t1.1
    unfold p_L_load_17
    rw [show Int32.toNatClampNeg 21 = 21 from by decide, show Int32.toNatClampNeg 22 = 22 from by decide]
    refine ⟨v24 (j := 21) (by omega), ?_⟩
    rintro _ rfl
    have e22 : (v_si S1 143 21 0).1 143 22 = 0 := by rw [si1, if_neg (by omega)]; exact (f1 143 22 rfl).1.trans h22
    rw [e22]
    refine ⟨v24 (j := 22) (by omega), fun w => absurd rfl w, fun _ => ?_⟩
    have t2 : a_TpX (v_si S1 143 21 0) L by' := ⟨t1.1, t1.2.1, t1.2.2⟩
    refine x_city (nm := fun _ => 0) t2 (fun w => ?_) (fun n hn' e => ?_)
    · rw [show a_in 0 (nI L) (nI T.length) = true from in_t (lo := 0) (by omega) hL (by omega)] at w
      cases w
    · have en : T.length = n := (nI_eq (by omega) (by omega)).mp e
      subst en
      have ec : a_CC by' T.length = b_C T := by
        funext j
        unfold a_CC b_C
        by_cases c : j < T.length
        · rw [if_pos c]; exact hv j c
        · rw [if_neg c, List.getD_eq_getElem?_getD, List.getElem?_eq_none (by omega)]
          rfl
      have et : a_toks by' T.length = b_t [] T := by
        unfold a_toks b_t
        rw [ec, List.nil_append]
        show a_tl (b_C T) T.length 0 = a_tl (b_C T) (0 + T.length) 0
        rw [Nat.zero_add]
      have wf := toks_wf (by_ := by') (n := T.length) (by omega)
      rw [et] at wf
      obtain ⟨s, qs, rs⟩ := read wf
      rw [et, rs]
      intro S' f' R' _ y _ _ _ _
      exact h s _ S' qs (fr_i f1 rfl) f' R' y.2.2
  unfold p_L_load
  rw [show Int32.toNatClampNeg 20 = 20 from by decide, show Int32.toNatClampNeg 21 = 21 from by decide]
  refine ⟨v24 (j := 21) (by omega), ?_⟩
  rintro _ rfl
  rw [h21, h20, ← hn]
  refine ⟨v24 (j := 20) (by omega), fun w => ?_, fun w => ?_⟩
  · have r0 : r ≤ 0 := (nI_leI (b := 0) (by omega) (by omega)).mp w
    exact k17 S _ by_ f tp (by omega) (fun j hj => ht j (by omega))
  · refine w_feed (r := r) (b := fun j => if j < r then T.getD (20 * q + j) 0 else 32) tp (by omega) (by omega) h20 (fun j hj => ?_) (fun j h1 _ => if_neg (by omega)) (fun j _ => ?_) (fun S1 by' f1 _ _ t1 b1 b2 => ?_)
    · rw [if_pos hj]; exact hm j hj
    · show (if j < r then T.getD (20 * q + j) 0 else 32) < 256
      split
      · exact getD_lt hb _
      · omega
    · refine k17 S1 _ by' (fr_t f f1) t1 (by omega) (fun j hj => ?_)
      by_cases c : j < 20 * q
      · rw [b1 j c]; exact ht j c
      · obtain ⟨i, rfl⟩ : ∃ i, j = 20 * q + i := ⟨j - 20 * q, by omega⟩
        rw [b2 i (by omega), if_pos (by omega)]
