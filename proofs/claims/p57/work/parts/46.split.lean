theorem x_nameOf {S : vSt} {C : Nat → Nat} {n i l : Nat} {K : Int64 → vSt → Prop} (hn : n ≤ 900) (hC : ∀ j, C j < 256) (H : ∀ j, j < n → S.1 6 j &&& 255 = nI (C j)) (hi : i + l ≤ n) (hl : a_let C i l) (h : K (lN (a_code C i l)) S) : p_X6_nameOf S (nI i) (nI (i + l)) K := by
  unfold p_X6_nameOf
  refine v_loop (fun fu k (z : Int64) => p_X6_nameOf_5 (nI i) (nI (i + l)) K fu S z (nI (i + k))) (fun k z => z = lN (a_code C i k)) l (fun fu k z hk hI hh => ?_) (fun fu z hI => ?_) 0 rfl
  · subst hI
    have n1 : ¬ nI (i + l) ≤ nI (i + k) := nI_ge (by omega) (by omega)
    have c1 := of_decide_eq_true (hl k hk)
    have c2 := hC (i + k)
    have e : (lN (a_code C i k) * 32 + (nI (C (i + k))).toInt64) - 97 + 1 = lN (a_code C i (k + 1)) := by
      rw [nI_lI (by omega), lI_N, lI_N, show (32 : Int64) = lI 32 from rfl, show (97 : Int64) = lI 97 from rfl, lI_1, lI_mul, lI_add, lI_sub, lI_add, code_s]
      congr 1
      omega
    simp only [e_X6_nameOf_5, n1, eq_self, reduceCtorEq, true_implies, false_implies, and_true, true_and, not_true_eq_false, not_false_eq_true, x_byteAt hn H (show i + k < n by omega), forall_eq, e, nIs]
    exact hh _ rfl
  · subst hI
    simp only [e_X6_nameOf_5, Int32.le_refl, eq_self, reduceCtorEq, true_implies, false_implies, and_true, true_and, not_true_eq_false, not_false_eq_true]
    exact h
theorem x_addWord {S : vSt} {C : Nat → Nat} {n i l : Nat} {L : List aK} {K : vSt → Prop} (hn : n ≤ 900) (hC : ∀ j, C j < 256) (H : ∀ j, j < n → S.1 6 j &&& 255 = nI (C j)) (hi : i + l ≤ n) (hl : a_let C i l) (h0 : a_rws S L) (h1 : S.1 5 5 = nI L.length) (hL : L.length < 901) (h : ∀ S', a_fr a_tf S S' → a_rws S' (L ++ [a_wtk C i l]) → S'.1 5 5 = nI (L ++ [a_wtk C i l]).length → K S') : p_X6_addWord S (nI i) (nI (i + l)) K := by
  unfold p_X6_addWord
  refine x_keywordOf hn hC H hi ?_
  unfold a_wtk at h
  unfold a_fg
  cases q : v_first (a_km C i l) 22 with
  | some k =>
    rw [q] at h
    have hk := first_lt _ _ q
    have nm : ¬ nI k = -1 := fun w => by
      have z : ¬ nI k < 0 := nI_pos (by omega)
      rw [w] at z
      exact z (by decide)
    simp only [nm, eq_self, reduceCtorEq, true_implies, false_implies, and_true, true_and, not_true_eq_false, not_false_eq_true]
    exact x_addToken (t := (2, i, k)) h0 h1 hL (by rw [nI_l (by omega)]) h
  | none =>
    rw [q] at h
    simp only [eq_self, reduceCtorEq, true_implies, false_implies, and_true, true_and, not_true_eq_false, not_false_eq_true]
    rw [show nI (i + l) - nI i = nI l by rw [pk_sub (by omega)]; congr 1; omega]
    by_cases c : 8 < l
    · have n1 : ¬ nI l ≤ 8 := nI_ge (a := 8) c (by omega)
      simp only [c, if_true] at h
      simp only [n1, eq_self, reduceCtorEq, true_implies, false_implies, and_true, true_and, not_true_eq_false, not_false_eq_true]
      exact x_addToken (t := (4, i, 0)) h0 h1 hL rfl h
    · have n1 : nI l ≤ 8 := nI_le (b := 8) (by omega) (by omega)
      simp only [c, if_false] at h
      simp only [n1, eq_self, reduceCtorEq, true_implies, false_implies, and_true, true_and, not_true_eq_false, not_false_eq_true]
      refine x_nameOf hn hC H hi hl ?_
      exact x_addToken (t := (3, i, a_code C i l)) h0 h1 hL rfl h
theorem x_addNumber {S : vSt} {C : Nat → Nat} {n i l : Nat} {L : List aK} {K : vSt → Prop} (hn : n ≤ 900) (hC : ∀ j, C j < 256) (H : ∀ j, j < n → S.1 6 j &&& 255 = nI (C j)) (hi : i + l ≤ n) (hl : ∀ j, j < l → a_isd (C (i + j)) = true) (h0 : a_rws S L) (h1 : S.1 5 5 = nI L.length) (hL : L.length < 901) (h : ∀ S', a_fr a_tf S S' → a_rws S' (L ++ [a_ntk C i l]) → S'.1 5 5 = nI (L ++ [a_ntk C i l]).length → K S') : p_X6_addNumber S (nI i) (nI (i + l)) K := by
  unfold p_X6_addNumber
  unfold a_ntk at h
  rw [show nI (i + l) - nI i = nI l by rw [pk_sub (by omega)]; congr 1; omega]
  by_cases c : 4 < l
  · have n1 : ¬ nI l ≤ 4 := nI_ge (a := 4) c (by omega)
    simp only [c, if_true] at h
    simp only [n1, eq_self, reduceCtorEq, true_implies, false_implies, and_true, true_and, not_true_eq_false, not_false_eq_true]
    exact x_addToken (t := (1, i, 0)) h0 h1 hL rfl h
  · have n1 : nI l ≤ 4 := nI_le (b := 4) (by omega) (by omega)
    simp only [c, if_false] at h
    simp only [n1, eq_self, reduceCtorEq, true_implies, false_implies, and_true, true_and, not_true_eq_false, not_false_eq_true]
    refine v_loop (fun fu k (z : Int32) => p_X6_addNumber_20 (nI i) (nI (i + l)) K fu S z (nI (i + k))) (fun k z => z = nI (a_num C i k)) l (fun fu k z hk hI hh => ?_) (fun fu z hI => ?_) 0 rfl
    · subst hI
      have n2 : ¬ nI (i + l) ≤ nI (i + k) := nI_ge (by omega) (by omega)
      have c1 := of_decide_eq_true (hl k hk)
      have e : (nI (a_num C i k) * 10 + nI (C (i + k))) - 48 = nI (a_num C i (k + 1)) := by
        rw [show (10 : Int32) = nI 10 from rfl, show (48 : Int32) = nI 48 from rfl, pk_mul, nI_add, pk_sub (by omega)]
        congr 1
        show _ = a_num C i k * 10 + (C (i + k) - 48)
        omega
      simp only [e_X6_addNumber_20, n2, eq_self, reduceCtorEq, true_implies, false_implies, and_true, true_and, not_true_eq_false, not_false_eq_true, x_byteAt hn H (show i + k < n by omega), forall_eq, e, nIs]
      exact hh _ rfl
    · subst hI
      have hb := num_lt (C := C) (i := i) l hl
      have h2 : 10 ^ l ≤ 10 ^ 4 := Nat.pow_le_pow_right (by omega) (by omega)
      simp only [e_X6_addNumber_20, Int32.le_refl, eq_self, reduceCtorEq, true_implies, false_implies, and_true, true_and, not_true_eq_false, not_false_eq_true]
      exact x_addToken (t := (5, i, a_num C i l)) h0 h1 hL (by rw [nI_l (by omega)]) h
/-- the class stands at the first token of R -/
def a_XR (S : vSt) (R : List aK) : Prop := ∃ (L : List aK) (k : Nat), a_rws S L ∧ L.length ≤ 901 ∧ L.drop k = R ∧ S.1 5 6 = nI k ∧ ∀ t, R.head? = some t → S.1 5 7 = nI t.1 ∧ S.1 5 8 = nI t.2.1 ∧ S.2 5 9 = lN t.2.2
def a_psf (k j : Nat) : Bool := decide (k = 5 ∧ 6 ≤ j ∧ j ≤ 10)
theorem pf_tf : ∀ k j, a_tf k j = false → a_psf k j = false := by
  intro k j q
  unfold a_tf at q
  unfold a_psf
  rw [decide_eq_false_iff_not] at q ⊢
  omega
theorem pass_at {S : vSt} {L : List aK} {k : Nat} {t : aK} {K : vSt → Prop} (h0 : a_rws S L) (hL : L.length ≤ 901) (hk : L[k]? = some t) (h1 : S.1 5 6 + 1 = nI k) (h : ∀ S', a_fr a_psf S S' → a_XR S' (L.drop k) → S'.2 5 10 = S.2 5 9 → K S') : p_X6_pass S K := by
  have hkl := (List.getElem?_eq_some_iff.mp hk).1
  obtain ⟨r1, r2, r3⟩ := h0 k t hk
  unfold p_X6_pass
  rintro _ rfl
  intro s2 hs2
  have e1 : (v_sl S 5 10 (S.2 5 9)).1 5 6 + 1 = nI k := h1
  rw [e1] at hs2
  have e2 : s2.1 5 6 = nI k := by rw [hs2]; exact si_at
  rw [e2, e_at (show k < 901 by omega) (by omega)]
  intro s3 hs3
  have e3 : s3.1 5 6 = nI k := by rw [hs3]; exact e2
  rw [e3, e_at (show k < 901 by omega) (by omega)]
  intro s4 hs4
  have e4 : s4.1 5 6 = nI k := by rw [hs4]; exact e3
  rw [e4, e_atl (show k < 901 by omega) (by omega)]
  intro s5 hs5
  have f2 : a_fr a_psf S s2 := by rw [hs2]; exact fr_i (fr_l fr_r rfl) rfl
  have f3 : a_fr a_psf S s3 := by rw [hs3]; exact fr_i f2 rfl
  have f4 : a_fr a_psf S s4 := by rw [hs4]; exact fr_i f3 rfl
  have f5 : a_fr a_psf S s5 := by rw [hs5]; exact fr_l f4 rfl
  have g7 : s5.1 5 7 = nI t.1 := by
    rw [hs5, sl1, hs4, si1, if_neg (by omega), hs3, si_at, (f2 7 k rfl).1]; exact r1
  have g8 : s5.1 5 8 = nI t.2.1 := by
    rw [hs5, sl1, hs4, si_at, (f3 8 k rfl).1]; exact r2
  have g9 : s5.2 5 9 = lN t.2.2 := by
    rw [hs5, sl_at, (f4 9 k rfl).2]; exact r3
  have g10 : s5.2 5 10 = S.2 5 9 := by
    rw [hs5, sl2, if_neg (by omega), hs4, si2, hs3, si2, hs2, si2]
    exact sl_at
  refine h s5 f5 ⟨L, k, fun j t' q => ?_, hL, rfl, ?_, fun t' q => ?_⟩ g10
  · rw [(f5 7 j rfl).1, (f5 8 j rfl).1, (f5 9 j rfl).2]
    exact h0 j t' q
  · rw [hs5]; exact e4
  · have et : t = t' := by
      rw [List.head?_drop, hk] at q
      exact Option.some.inj q
    subst et
    exact ⟨g7, g8, g9⟩
theorem XR_cur {S : vSt} {t : aK} {R : List aK} (h : a_XR S (t :: R)) : S.1 5 7 = nI t.1 ∧ S.1 5 8 = nI t.2.1 ∧ S.2 5 9 = lN t.2.2 := by
  obtain ⟨L, k, -, -, -, -, h⟩ := h
  exact h t rfl
theorem x_pass {S : vSt} {t u : aK} {R : List aK} {K : vSt → Prop} (h0 : a_XR S (t :: u :: R)) (h : ∀ S', a_fr a_psf S S' → a_XR S' (u :: R) → S'.2 5 10 = lN t.2.2 → K S') : p_X6_pass S K := by
  have c := XR_cur h0
  obtain ⟨L, k, r, hL, hd, h1, -⟩ := h0
  have hk : L[k + 1]? = some u := by
    have q : (L.drop k)[1]? = some u := by rw [hd]; rfl
    rw [List.getElem?_drop] at q
    exact q
  refine pass_at r hL hk (by rw [h1, nIs]) (fun S' f hR ht => h S' f ?_ (by rw [ht]; exact c.2.2))
  have e : L.drop (k + 1) = u :: R := by
    rw [← List.tail_drop, hd]
    rfl
  rw [e] at hR
  exact hR
theorem XR_fr {S S' : vSt} {R : List aK} {c : Nat → Nat → Bool} (h : a_XR S R) (f : a_fr c S S') (hc : ∀ k j, (k = 7 ∨ k = 8 ∨ k = 9 ∨ (k = 5 ∧ 6 ≤ j ∧ j ≤ 9)) → c k j = false) : a_XR S' R := by
  obtain ⟨L, k, r, hL, hd, h1, h2⟩ := h
  refine ⟨L, k, fun j t q => ?_, hL, hd, ?_, fun t q => ?_⟩
  · rw [(f 7 j (hc _ _ (by omega))).1, (f 8 j (hc _ _ (by omega))).1, (f 9 j (hc _ _ (by omega))).2]
    exact r j t q
  · rw [(f 5 6 (hc _ _ (by omega))).1]; exact h1
  · rw [(f 5 7 (hc _ _ (by omega))).1, (f 5 8 (hc _ _ (by omega))).1, (f 5 9 (hc _ _ (by omega))).2]
    exact h2 t q
/-! the class splits all -/
theorem x_split {S : vSt} {C : Nat → Nat} {n : Nat} {K : vSt → Prop} (hn : n ≤ 900) (hC : ∀ j, C j < 256) (H : ∀ j, j < n → S.1 6 j &&& 255 = nI (C j)) (h : ∀ S', a_fr a_tf S S' → a_XR S' (a_tl C n 0) → (a_tl C n 0).length ≤ 901 → K S') : p_X6_split S (nI n) K := by
  have fin : ∀ s L, a_fr a_tf S s → a_rws s L → s.1 5 5 = nI L.length → L.length ≤ 900 → L ++ [(0, n, 0)] = a_tl C n 0 → p_X6_split_156 (nI n) K s := by
    intro s L f r h5 hL e
    unfold p_X6_split_156
    refine x_addToken (t := (0, n, 0)) r h5 (by omega) rfl (fun s1 f1 r1 h51 => ?_)
    rintro _ rfl
    have hlen : (L ++ [(0, n, 0)]).length ≤ 901 := by rw [List.length_append]; show L.length + 1 ≤ 901; omega
    have hk : ∃ t, (L ++ [(0, n, 0)])[0]? = some t := by
      cases L with
      | nil => exact ⟨_, rfl⟩
      | cons a l => exact ⟨_, rfl⟩
    obtain ⟨t, hk⟩ := hk
    have r2 : a_rws (v_si s1 5 6 (-1)) (L ++ [(0, n, 0)]) := r1
    refine pass_at r2 hlen hk (by rw [si_at]; rfl) (fun S' f' hR _ => ?_)
    rw [List.drop_zero, e] at hR
    rw [e] at hlen
    exact h S' (fr_t f (fr_t f1 (fr_t (fr_i fr_r rfl) (fr_w f' pf_tf)))) hR hlen
  have key : ∀ k i t L s, n - i ≤ k → t ≤ i → i ≤ n → a_fr a_tf S s → a_rws s L → s.1 5 5 = nI L.length → L.length ≤ i → L ++ a_tl C n i = a_tl C n 0 → p_X6_split_9 (nI n) K (k + 1) s (nI i) (nI t) := by
    intro k
    induction k with
    | zero =>
      intro i t L s hk ht hi f r h5 hL e
      have ei : i = n := by omega
      subst ei
      rw [tl_end (Nat.le_refl _)] at e
      have q := fin s L f r h5 (by omega) e
      have n1 : ¬ nI i < nI t := nI_nlt ht (by omega)
      rw [e_X6_split_9]
      simp only [n1, Int32.le_refl, eq_self, reduceCtorEq, true_implies, false_implies, and_true, true_and, not_true_eq_false, not_false_eq_true]
      exact q
    | succ k ih =>
      intro i t L s hk ht hi f r h5 hL e
      by_cases c : n ≤ i
      · have ei : i = n := by omega
        subst ei
        rw [tl_end (Nat.le_refl _)] at e
        have q := fin s L f r h5 (by omega) e
        have n1 : ¬ nI i < nI t := nI_nlt ht (by omega)
        rw [e_X6_split_9]
        simp only [n1, Int32.le_refl, eq_self, reduceCtorEq, true_implies, false_implies, and_true, true_and, not_true_eq_false, not_false_eq_true]
        exact q
      · have n1 : ¬ nI n < nI t := nI_nlt (by omega) (by omega)
        have n2 : ¬ nI n ≤ nI i := nI_ge (by omega) (by omega)
        have Hs : ∀ j, j < n → s.1 6 j &&& 255 = nI (C j) := fun j hj => by rw [(f 6 j rfl).1]; exact H j hj
        have rg := nxt_rg (C := C) (show i < n by omega)
        have es := tl_s (C := C) (show i < n by omega)
        have nb : a_isb (C i) = false → a_tl C n i = a_tok1 C n i :: a_tl C n (a_nxt C n i) := fun w => by rw [es, w, if_neg (by decide)]
        have go : ∀ s', a_isb (C i) = false → a_fr a_tf s s' → a_rws s' (L ++ [a_tok1 C n i]) → s'.1 5 5 = nI (L ++ [a_tok1 C n i]).length → p_X6_split_147 (nI n) (p_X6_split_9 (nI n) K (k + 1)) K s' (nI t) (nI (a_nxt C n i)) := by
          intro s' w f' r' h5'
          unfold p_X6_split_147
          simp only [forall_eq, nIs]
          refine ih (a_nxt C n i) (t + 1) (L ++ [a_tok1 C n i]) s' (by omega) (by omega) (by omega) (fr_t f f') r' h5' (by rw [List.length_append]; show L.length + 1 ≤ _; omega) ?_
          rw [List.append_assoc, ← e, nb w]
          rfl
        have skip : a_isb (C i) = true → p_X6_split_147 (nI n) (p_X6_split_9 (nI n) K (k + 1)) K s (nI t) (nI (i + 1)) := by
          intro w
          unfold p_X6_split_147
          simp only [forall_eq, nIs]
          refine ih (i + 1) (t + 1) L s (by omega) (by omega) (by omega) f r h5 (by omega) ?_
          rw [es, w, if_pos rfl] at e
          exact e
        have hc := hC i
        rw [e_X6_split_9]
        simp only [n1, n2, eq_self, reduceCtorEq, true_implies, false_implies, and_true, true_and, not_true_eq_false, not_false_eq_true, x_byteAt hn Hs (show i < n by omega), forall_eq, e_isLetter hc, e_isDigit hc, nIs]
        cases l1 : a_isl (C i)
        · simp only [eq_self, reduceCtorEq, true_implies, false_implies, and_true, true_and, not_true_eq_false, not_false_eq_true]
          cases l2 : a_isd (C i)
          · simp only [eq_self, reduceCtorEq, true_implies, false_implies, and_true, true_and, not_true_eq_false, not_false_eq_true]
            have e2 : a_nxt C n i = i + 1 := by unfold a_nxt; rw [l1, l2]; rfl
            rw [e2] at go
            have eq : ∀ m, m < 256 → (nI (C i) = nI m ↔ C i = m) := fun m hm => nI_eq (by omega) (by omega)
            rw [show (59 : Int32) = nI 59 from rfl, show (60 : Int32) = nI 60 from rfl, show (62 : Int32) = nI 62 from rfl, show (61 : Int32) = nI 61 from rfl, show (10 : Int32) = nI 10 from rfl, show (32 : Int32) = nI 32 from rfl, eq 59 (by omega), eq 60 (by omega), eq 62 (by omega), eq 61 (by omega), eq 10 (by omega), eq 32 (by omega)]
            have sign : a_iss (C i) = true → p_X6_split_113 (nI n) (p_X6_split_9 (nI n) K (k + 1)) K s (nI i) (nI t) (nI (C i)) (nI (i + 1)) := by
              intro w
              have w' := of_decide_eq_true w
              have et : a_tok1 C n i = (6, i, C i) := by unfold a_tok1; rw [l1, l2, w]; rfl
              rw [et] at go
              unfold p_X6_split_113
              exact x_addToken (t := (6, i, C i)) r h5 (by omega) (by rw [nI_l (by omega)]) (fun s' f' r' h5' => go s' (decide_eq_false (by omega)) f' r' h5')
            refine ⟨fun w => sign (decide_eq_true (by omega)), fun w1 => ⟨fun w => sign (decide_eq_true (by omega)), fun w2 => ⟨fun w => sign (decide_eq_true (by omega)), fun w3 => ⟨fun w4 => ⟨fun w => skip (decide_eq_true (by omega)), fun w5 => ⟨fun w => skip (decide_eq_true (by omega)), fun w6 => ?_⟩⟩, fun w => sign (decide_eq_true (by omega))⟩⟩⟩⟩
            have w : a_iss (C i) = false := decide_eq_false (by omega)
            have et : a_tok1 C n i = (1, i, 0) := by unfold a_tok1; rw [l1, l2, w]; rfl
            rw [et] at go
            exact x_addToken (t := (1, i, 0)) r h5 (by omega) rfl (fun s' f' r' h5' => go s' (decide_eq_false (by omega)) f' r' h5')
          · simp only [eq_self, reduceCtorEq, true_implies, false_implies, and_true, true_and, not_true_eq_false, not_false_eq_true]
            have e2 : a_nxt C n i = a_re a_isd C (n - i) i := by unfold a_nxt; rw [l1, l2]; rfl
            have et : a_tok1 C n i = a_ntk C i (a_re a_isd C (n - i) i - i) := by unfold a_tok1; rw [l1, l2]; rfl
            have w := of_decide_eq_true l2
            unfold p_X6_runEnd
            refine ⟨n - i + 1, x_runEnd hn hC Hs (n - i) i (by omega) ?_⟩
            rw [if_neg (show ¬ false = true by decide)]
            rw [e2] at rg go
            rw [et] at go
            have q := x_addNumber (i := i) (l := a_re a_isd C (n - i) i - i) (K := fun s' => p_X6_split_147 (nI n) (p_X6_split_9 (nI n) K (k + 1)) K s' (nI t) (nI (a_re a_isd C (n - i) i))) hn hC Hs (by omega) (fun j hj => re_in a_isd C (n - i) i (i + j) (by omega) (by omega)) r h5 (by omega) (fun s' f' r' h5' => go s' (decide_eq_false (by omega)) f' r' h5')
            rw [show i + (a_re a_isd C (n - i) i - i) = a_re a_isd C (n - i) i by omega] at q
            exact q
        · simp only [eq_self, reduceCtorEq, true_implies, false_implies, and_true, true_and, not_true_eq_false, not_false_eq_true]
          have e2 : a_nxt C n i = a_re a_isl C (n - i) i := by unfold a_nxt; rw [l1]; rfl
          have et : a_tok1 C n i = a_wtk C i (a_re a_isl C (n - i) i - i) := by unfold a_tok1; rw [l1]; rfl
          have w := of_decide_eq_true l1
          unfold p_X6_runEnd
          refine ⟨n - i + 1, x_runEnd hn hC Hs (n - i) i (by omega) ?_⟩
          rw [if_pos rfl]
          rw [e2] at rg go
          rw [et] at go
          have q := x_addWord (i := i) (l := a_re a_isl C (n - i) i - i) (K := fun s' => p_X6_split_147 (nI n) (p_X6_split_9 (nI n) K (k + 1)) K s' (nI t) (nI (a_re a_isl C (n - i) i))) hn hC Hs (by omega) let_of r h5 (by omega) (fun s' f' r' h5' => go s' (decide_eq_false (by omega)) f' r' h5')
          rw [show i + (a_re a_isl C (n - i) i - i) = a_re a_isl C (n - i) i by omega] at q
          exact q
  unfold p_X6_split
  rintro _ rfl
  exact ⟨n + 1, key n 0 0 [] _ (by omega) (Nat.le_refl _) (by omega) (fr_i fr_r rfl) (fun j t q => by cases q) si_at (Nat.le_refl _) rfl⟩
