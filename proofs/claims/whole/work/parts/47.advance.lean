/-! the model's tokens, one by one -/
def a_wv (t : aK) : Int64 := if t.1 = 2 then lN (a_kc t.2.2) else if t.1 = 3 then lN t.2.2 else -1
def a_tkk (k : Nat) : Nat := if k = 0 then 0 else if k = 1 then 4 else if k = 5 then 2 else if k = 6 then 3 else 1
def a_mc (S : vSt) (t : aK) : Prop := S.1 143 15 = nI t.2.1 ∧ S.1 143 14 = nI (a_tkk t.1) ∧ ((t.1 = 5 ∨ t.1 = 6) → S.1 143 17 = nI t.2.2) ∧ ((t.1 = 2 ∨ t.1 = 3 ∨ t.1 = 4) → S.2 143 19 = a_wv t ∧ (8 < S.1 143 18 ↔ t.1 = 4))
def a_av (k j : Nat) : Bool := decide (k = 143 ∧ 14 ≤ j ∧ j ≤ 19)
/-- the text of the model: n bytes, told by C -/
def a_TT (S : vSt) (C : Nat → Nat) (n : Nat) : Prop := n ≤ 900 ∧ (∀ j, C j < 256) ∧ (∀ j, n ≤ j → C j = 0) ∧ S.1 143 9 = nI n ∧ ∀ j, j < n → S.1 147 j &&& 255 = nI (C j)
theorem TT_fr {S S' : vSt} {C : Nat → Nat} {n : Nat} {c : Nat → Nat → Bool} (h : a_TT S C n) (f : a_fr c S S') (h1 : c 143 9 = false) (h2 : ∀ j, c 147 j = false) : a_TT S' C n := by
  obtain ⟨a1, a2, a3, a4, a5⟩ := h
  refine ⟨a1, a2, a3, (f 143 9 h1).1.trans a4, fun j hj => ?_⟩
  rw [(f 147 j (h2 j)).1]
  exact a5 j hj
/-- the model stands at the first token of R -/
def a_MR (S : vSt) (C : Nat → Nat) (n : Nat) (R : List aK) : Prop := ∃ (t : aK) (R' : List aK), R = t :: R' ∧ a_mc S t ∧ (t.1 ≠ 0 → ∃ q, q ≤ n ∧ S.1 143 16 = nI q ∧ R' = a_tl C n q)
theorem m_look {S : vSt} {C : Nat → Nat} {n i : Nat} {K : Int32 → vSt → Prop} (T : a_TT S C n) (hi : i < 2000) : p_X11_look2 S (nI i) K = K (nI (C i)) S := by
  obtain ⟨a1, a2, a3, a4, a5⟩ := T
  unfold p_X11_look2
  rw [a4]
  by_cases c : n ≤ i
  · have n1 : nI n ≤ nI i := nI_le c (by omega)
    simp only [n1, eq_self, reduceCtorEq, true_implies, false_implies, and_true, true_and, not_true_eq_false, not_false_eq_true, a3 i c]
    rfl
  · have n1 : ¬ nI n ≤ nI i := nI_ge (by omega) (by omega)
    simp (disch := omega) only [n1, eq_self, reduceCtorEq, true_implies, false_implies, and_true, true_and, not_true_eq_false, not_false_eq_true, ia8, ia16, ia24, ia32, ia40, ia48, ia58, ia68, ia78, ia88, ia98, ncl, vpt, c0, c1, c2, c3, c4, c5, c6, c7, k0, k1, k2, k3, k4, k5, k6, k7, a5 i (by omega)]
theorem TT_av {S S' : vSt} {C : Nat → Nat} {n : Nat} (T : a_TT S C n) (f : a_fr a_av S S') : a_TT S' C n := TT_fr T f rfl (fun j => decide_eq_false (by omega))
theorem re_s (p : Nat → Bool) (C : Nat → Nat) (k i : Nat) : a_re p C (k + 1) i = if p (C i) = true then a_re p C k (i + 1) else i := rfl
theorem tok1_k {C : Nat → Nat} {n i : Nat} : (a_tok1 C n i).1 ≠ 0 ∧ (a_tok1 C n i).2.1 = i := by
  unfold a_tok1
  split
  · unfold a_wtk
    split
    · exact ⟨by show 2 ≠ 0; omega, rfl⟩
    · split
      · exact ⟨by show 4 ≠ 0; omega, rfl⟩
      · exact ⟨by show 3 ≠ 0; omega, rfl⟩
  · split
    · unfold a_ntk
      split
      · exact ⟨by show 1 ≠ 0; omega, rfl⟩
      · exact ⟨by show 5 ≠ 0; omega, rfl⟩
    · split
      · exact ⟨by show 6 ≠ 0; omega, rfl⟩
      · exact ⟨by show 1 ≠ 0; omega, rfl⟩
theorem m_advance {S : vSt} {C : Nat → Nat} {n q : Nat} {K : vSt → Prop} (T : a_TT S C n) (hq : q ≤ n) (h1 : S.1 143 16 = nI q) (h : ∀ S', a_fr a_av S S' → a_MR S' C n (a_tl C n q) → K S') : p_X11_advance S K := by
  have hn := T.1
  have hC := T.2.1
  unfold p_X11_advance
  rintro _ rfl
  rw [h1]
  -- behind the blanks: at i
  have fin : ∀ s i, a_fr a_av S s → i ≤ n → s.1 143 15 = nI i → a_tl C n i = a_tl C n q → (i < n → a_isb (C i) = false) → p_X11_advance_58 K s := by
    intro s i f hi e15 et eb
    have Ts := TT_av T f
    unfold p_X11_advance_58
    rintro _ rfl
    rw [e15]
    have e15' : (v_si s 143 16 (nI i)).1 143 15 = nI i := e15
    have e9' : (v_si s 143 16 (nI i)).1 143 9 = nI n := Ts.2.2.2.1
    rw [e15', e9']
    by_cases c : i < n
    · have n1 : nI i < nI n := nI_lt c (by omega)
      have f1 : a_fr a_av s (v_si s 143 16 (nI i)) := fr_i fr_r rfl
      have T1 := TT_av Ts f1
      have hc := hC i
      have eb := eb c
      have es := tl_s (C := C) c
      rw [eb, if_neg (by decide)] at es
      have rg := nxt_rg (C := C) c
      obtain ⟨k1, k2⟩ := tok1_k (C := C) (n := n) (i := i)
      -- how it ends
      have fin2 : ∀ s', a_fr a_av s s' → s'.1 143 15 = nI i → s'.1 143 16 = nI (a_nxt C n i) → s'.1 143 14 = nI (a_tkk (a_tok1 C n i).1) → (((a_tok1 C n i).1 = 5 ∨ (a_tok1 C n i).1 = 6) → s'.1 143 17 = nI (a_tok1 C n i).2.2) → (((a_tok1 C n i).1 = 2 ∨ (a_tok1 C n i).1 = 3 ∨ (a_tok1 C n i).1 = 4) → s'.2 143 19 = a_wv (a_tok1 C n i) ∧ (8 < s'.1 143 18 ↔ (a_tok1 C n i).1 = 4)) → K s' := by
        intro s' f' b15 b16 b14 b17 b19
        refine h s' (fr_t f f') ⟨a_tok1 C n i, a_tl C n (a_nxt C n i), by rw [← et, es], ⟨by rw [k2]; exact b15, b14, b17, b19⟩, fun _ => ⟨_, rg.2, b16, rfl⟩⟩
      simp only [n1, eq_self, reduceCtorEq, true_implies, false_implies, and_true, true_and, not_true_eq_false, not_false_eq_true, m_look T1 (show i < 2000 by omega), e_mLetter hc, e_mDigit hc]
      cases l1 : a_isl (C i)
      · simp only [eq_self, reduceCtorEq, true_implies, false_implies, and_true, true_and, not_true_eq_false, not_false_eq_true]
        cases l2 : a_isd (C i)
        · simp only [eq_self, reduceCtorEq, true_implies, false_implies, and_true, true_and, not_true_eq_false, not_false_eq_true]
          have e2 : a_nxt C n i = i + 1 := by unfold a_nxt; rw [l1, l2]; rfl
          rw [e2] at fin2
          rintro _ rfl _ rfl
          have esb : ∀ (s2 : vSt) (K2 : Bool → vSt → Prop), p_X11_isSignByte s2 (nI (C i)) K2 = K2 (a_iss (C i)) s2 := by
            intro s2 K2
            have eq : ∀ m, m < 256 → (nI (C i) = nI m ↔ C i = m) := fun m hm => nI_eq (by omega) (by omega)
            unfold p_X11_isSignByte a_iss
            rw [show (59 : Int32) = nI 59 from rfl, show (60 : Int32) = nI 60 from rfl, show (62 : Int32) = nI 62 from rfl, show (61 : Int32) = nI 61 from rfl, eq 59 (by omega), eq 60 (by omega), eq 62 (by omega), eq 61 (by omega)]
            by_cases w1 : C i = 59
            · simp [w1]
            · by_cases w2 : C i = 60
              · simp [w2]
              · by_cases w3 : C i = 62
                · simp [w3]
                · by_cases w4 : C i = 61
                  · simp [w4]
                  · simp [w1, w2, w3, w4]
          rw [esb, e15', nIs]
          have e16 : ∀ x, (v_si (v_si (v_si (v_si s 143 16 (nI i)) 143 16 (nI (i + 1))) 143 17 (nI (C i))) 143 14 x).1 143 16 = nI (i + 1) := fun x => rfl
          have e17 : ∀ x, (v_si (v_si (v_si (v_si s 143 16 (nI i)) 143 16 (nI (i + 1))) 143 17 (nI (C i))) 143 14 x).1 143 17 = nI (C i) := fun x => rfl
          have ff : ∀ x, a_fr a_av s (v_si (v_si (v_si (v_si s 143 16 (nI i)) 143 16 (nI (i + 1))) 143 17 (nI (C i))) 143 14 x) := fun x => fr_i (fr_i (fr_i (fr_i fr_r rfl) rfl) rfl) rfl
          cases l3 : a_iss (C i)
          · simp only [eq_self, reduceCtorEq, true_implies, false_implies, and_true, true_and, not_true_eq_false, not_false_eq_true, forall_eq]
            have ek : a_tok1 C n i = (1, i, 0) := by unfold a_tok1; rw [l1, l2, l3]; rfl
            rw [ek] at fin2
            refine fin2 _ (ff 4) e15 (e16 4) si_at (fun w => ?_) (fun w => ?_)
            · rcases w with w | w
              · exact absurd w (show ¬ 1 = 5 by omega)
              · exact absurd w (show ¬ 1 = 6 by omega)
            · rcases w with w | w | w
              · exact absurd w (show ¬ 1 = 2 by omega)
              · exact absurd w (show ¬ 1 = 3 by omega)
              · exact absurd w (show ¬ 1 = 4 by omega)
          · simp only [eq_self, reduceCtorEq, true_implies, false_implies, and_true, true_and, not_true_eq_false, not_false_eq_true, forall_eq]
            have ek : a_tok1 C n i = (6, i, C i) := by unfold a_tok1; rw [l1, l2, l3]; rfl
            rw [ek] at fin2
            refine fin2 _ (ff 3) e15 (e16 3) si_at (fun _ => e17 3) (fun w => ?_)
            rcases w with w | w | w
            · exact absurd w (show ¬ 6 = 2 by omega)
            · exact absurd w (show ¬ 6 = 3 by omega)
            · exact absurd w (show ¬ 6 = 4 by omega)
        · simp only [eq_self, reduceCtorEq, true_implies, false_implies, and_true, true_and, not_true_eq_false, not_false_eq_true]
          have e2 : a_nxt C n i = a_re a_isd C (n - i) i := by unfold a_nxt; rw [l1, l2]; rfl
          have ek : a_tok1 C n i = a_ntk C i (a_re a_isd C (n - i) i - i) := by unfold a_tok1; rw [l1, l2]; rfl
          rw [e2] at fin2 rg
          rw [ek] at fin2
          rintro _ rfl
          -- digit by digit
          have key : ∀ k l s', i + l + k = n → a_fr a_av s s' → s'.1 143 15 = nI i → s'.1 143 16 = nI (i + l) → s'.1 143 17 = nI (a_num C i (min l 4)) → a_re a_isd C k (i + l) = a_re a_isd C (n - i) i → (∀ j, j < l → a_isd (C (i + j)) = true) → p_X11_advance_210 K (k + 1) s' := by
            intro k
            induction k with
            | zero =>
              intro l s' hl f' b15 b16 b17 er hd
              have T' := TT_av Ts f'
              have c0 : C (i + l) = 0 := T.2.2.1 _ (by omega)
              have er : i + l = a_re a_isd C (n - i) i := er
              rw [e_X11_advance_210, b16, m_look T' (by omega), c0, e_mDigit (by omega), show a_isd 0 = false from rfl]
              simp only [eq_self, reduceCtorEq, true_implies, false_implies, and_true, true_and, not_true_eq_false, not_false_eq_true, b15, b16]
              rw [pk_sub (show i ≤ i + l by omega), show i + l - i = l by omega]
              have el : a_re a_isd C (n - i) i - i = l := by omega
              rw [el, ← er] at fin2
              unfold a_ntk at fin2
              by_cases c4 : 4 < l
              · have n4 : ¬ nI l ≤ 4 := nI_ge (a := 4) c4 (by omega)
                rw [if_pos c4] at fin2
                simp only [n4, eq_self, reduceCtorEq, true_implies, false_implies, and_true, true_and, not_true_eq_false, not_false_eq_true, forall_eq]
                refine fin2 _ (fr_i f' rfl) b15 b16 si_at (fun w => ?_) (fun w => ?_)
                · rcases w with w | w
                  · exact absurd w (show ¬ 1 = 5 by omega)
                  · exact absurd w (show ¬ 1 = 6 by omega)
                · rcases w with w | w | w
                  · exact absurd w (show ¬ 1 = 2 by omega)
                  · exact absurd w (show ¬ 1 = 3 by omega)
                  · exact absurd w (show ¬ 1 = 4 by omega)
              · have n4 : nI l ≤ 4 := nI_le (b := 4) (by omega) (by omega)
                rw [if_neg c4] at fin2
                simp only [n4, eq_self, reduceCtorEq, true_implies, false_implies, and_true, true_and, not_true_eq_false, not_false_eq_true, forall_eq]
                refine fin2 _ (fr_i f' rfl) b15 b16 si_at (fun _ => ?_) (fun w => ?_)
                · rw [Nat.min_eq_left (by omega)] at b17; exact b17
                · rcases w with w | w | w
                  · exact absurd w (show ¬ 5 = 2 by omega)
                  · exact absurd w (show ¬ 5 = 3 by omega)
                  · exact absurd w (show ¬ 5 = 4 by omega)
            | succ k ih =>
              intro l s' hl f' b15 b16 b17 er hd
              have T' := TT_av Ts f'
              have hcl := hC (i + l)
              rw [e_X11_advance_210, b16, m_look T' (by omega), e_mDigit hcl]
              rw [re_s] at er
              cases d : a_isd (C (i + l))
              · rw [d, if_neg (by decide)] at er
                simp only [eq_self, reduceCtorEq, true_implies, false_implies, and_true, true_and, not_true_eq_false, not_false_eq_true, b15, b16]
                rw [pk_sub (show i ≤ i + l by omega), show i + l - i = l by omega]
                have el : a_re a_isd C (n - i) i - i = l := by omega
                rw [el, ← er] at fin2
                unfold a_ntk at fin2
                by_cases c4 : 4 < l
                · have n4 : ¬ nI l ≤ 4 := nI_ge (a := 4) c4 (by omega)
                  rw [if_pos c4] at fin2
                  simp only [n4, eq_self, reduceCtorEq, true_implies, false_implies, and_true, true_and, not_true_eq_false, not_false_eq_true, forall_eq]
                  refine fin2 _ (fr_i f' rfl) b15 b16 si_at (fun w => ?_) (fun w => ?_)
                  · rcases w with w | w
                    · exact absurd w (show ¬ 1 = 5 by omega)
                    · exact absurd w (show ¬ 1 = 6 by omega)
                  · rcases w with w | w | w
                    · exact absurd w (show ¬ 1 = 2 by omega)
                    · exact absurd w (show ¬ 1 = 3 by omega)
                    · exact absurd w (show ¬ 1 = 4 by omega)
                · have n4 : nI l ≤ 4 := nI_le (b := 4) (by omega) (by omega)
                  rw [if_neg c4] at fin2
                  simp only [n4, eq_self, reduceCtorEq, true_implies, false_implies, and_true, true_and, not_true_eq_false, not_false_eq_true, forall_eq]
                  refine fin2 _ (fr_i f' rfl) b15 b16 si_at (fun _ => ?_) (fun w => ?_)
                  · rw [Nat.min_eq_left (by omega)] at b17; exact b17
                  · rcases w with w | w | w
                    · exact absurd w (show ¬ 5 = 2 by omega)
                    · exact absurd w (show ¬ 5 = 3 by omega)
                    · exact absurd w (show ¬ 5 = 4 by omega)
              · rw [d, if_pos rfl] at er
                simp only [eq_self, reduceCtorEq, true_implies, false_implies, and_true, true_and, not_true_eq_false, not_false_eq_true, b15, b16]
                rw [pk_sub (show i ≤ i + l by omega), show i + l - i = l by omega, m_look T' (by omega)]
                unfold p_X11_advance_260
                have hd' : ∀ j, j < l + 1 → a_isd (C (i + j)) = true := fun j hj => by
                  by_cases ej : j = l
                  · rw [ej]; exact d
                  · exact hd j (by omega)
                by_cases c4 : 4 ≤ l
                · have n4 : 4 ≤ nI l := nI_le (a := 4) c4 (by omega)
                  simp only [n4, eq_self, reduceCtorEq, true_implies, false_implies, and_true, true_and, not_true_eq_false, not_false_eq_true, forall_eq, b16, nIs]
                  refine ih (l + 1) _ (by omega) (fr_i f' rfl) b15 si_at ?_ er hd'
                  rw [Nat.min_eq_right (by omega)] at b17 ⊢
                  exact b17
                · have n4 : ¬ 4 ≤ nI l := nI_ge (b := 4) (by omega) (by omega)
                  have cd := of_decide_eq_true d
                  simp only [n4, eq_self, reduceCtorEq, true_implies, false_implies, and_true, true_and, not_true_eq_false, not_false_eq_true, forall_eq, b17]
                  have e16 : ∀ x, (v_si s' 143 17 x).1 143 16 = nI (i + l) := fun x => b16
                  rw [e16, nIs]
                  refine ih (l + 1) _ (by omega) (fr_i (fr_i f' rfl) rfl) b15 si_at ?_ er hd'
                  show ((10 : Int32) * nI (a_num C i (min l 4)) + nI (C (i + l))) - 48 = _
                  rw [Nat.min_eq_left (by omega), Nat.min_eq_left (by omega), show (10 : Int32) = nI 10 from rfl, show (48 : Int32) = nI 48 from rfl, pk_mul, nI_add, pk_sub (by omega)]
                  congr 1
                  show _ = a_num C i l * 10 + (C (i + l) - 48)
                  omega
          exact ⟨n - i + 1, key (n - i) 0 _ (by omega) (fr_i (fr_i fr_r rfl) rfl) e15 rfl rfl rfl (fun j hj => absurd hj (by omega))⟩
      · simp only [eq_self, reduceCtorEq, true_implies, false_implies, and_true, true_and, not_true_eq_false, not_false_eq_true]
        have e2 : a_nxt C n i = a_re a_isl C (n - i) i := by unfold a_nxt; rw [l1]; rfl
        have ek : a_tok1 C n i = a_wtk C i (a_re a_isl C (n - i) i - i) := by unfold a_tok1; rw [l1]; rfl
        rw [e2] at fin2 rg
        rw [ek] at fin2
        rintro _ rfl _ rfl
        have fin3 : ∀ l s', i + l ≤ n → i + l = a_re a_isl C (n - i) i → a_fr a_av s s' → s'.1 143 15 = nI i → s'.1 143 16 = nI (i + l) → s'.1 143 14 = 1 → s'.2 143 19 = (if l ≤ 8 then lN (a_code C i l) else -1) → a_let C i l → K (v_si s' 143 18 (nI l)) := by
          intro l s' hln er f' b15 b16 b14 b19 hl
          have el : a_re a_isl C (n - i) i - i = l := by omega
          rw [el, ← er] at fin2
          have h18 : 8 < nI l ↔ 8 < l := nI_ltI (a := 8) (by omega) (by omega)
          unfold a_wtk at fin2
          cases w : v_first (a_km C i l) 22 with
          | some k =>
            rw [w] at fin2
            have hk := first_lt _ _ w
            have mk : a_km C i l k = true := by
              have key : ∀ m, v_first (a_km C i l) m = some k → a_km C i l k = true := by
                intro m
                induction m with
                | zero => intro hm; cases hm
                | succ m ih =>
                  intro hm
                  unfold v_first at hm
                  split at hm
                  · next k' hm' => exact ih (by rw [hm']; exact hm)
                  · split at hm
                    · next hm2 => cases hm; exact hm2
                    · cases hm
              exact key 22 w
            have lk := (of_decide_eq_true mk).1
            have l7 := (kc_code k hk).2.1
            have ec : a_code C i l = a_kc k := by
              rw [km_code hl hk] at mk
              exact of_decide_eq_true mk
            refine fin2 _ (fr_i f' rfl) b15 b16 b14 (fun v => ?_) (fun _ => ⟨?_, ?_⟩)
            · rcases v with v | v
              · exact absurd v (show ¬ 2 = 5 by omega)
              · exact absurd v (show ¬ 2 = 6 by omega)
            · show s'.2 143 19 = _
              rw [b19, if_pos (by omega), ec]
              rfl
            · rw [si_at, h18]
              constructor
              · intro v; omega
              · intro v; exact absurd v (show ¬ 2 = 4 by omega)
          | none =>
            rw [w] at fin2
            dsimp only at fin2
            by_cases c8 : 8 < l
            · rw [if_pos c8] at fin2
              refine fin2 _ (fr_i f' rfl) b15 b16 b14 (fun v => ?_) (fun _ => ⟨?_, ?_⟩)
              · rcases v with v | v
                · exact absurd v (show ¬ 4 = 5 by omega)
                · exact absurd v (show ¬ 4 = 6 by omega)
              · show s'.2 143 19 = _
                rw [b19, if_neg (by omega)]
                rfl
              · rw [si_at, h18]
                exact ⟨fun _ => rfl, fun _ => c8⟩
            · rw [if_neg c8] at fin2
              refine fin2 _ (fr_i f' rfl) b15 b16 b14 (fun v => ?_) (fun _ => ⟨?_, ?_⟩)
              · rcases v with v | v
                · exact absurd v (show ¬ 3 = 5 by omega)
                · exact absurd v (show ¬ 3 = 6 by omega)
              · show s'.2 143 19 = _
                rw [b19, if_pos (by omega)]
                rfl
              · rw [si_at, h18]
                constructor
                · intro v; omega
                · intro v; exact absurd v (show ¬ 3 = 4 by omega)
        have key : ∀ k l s', i + l + k = n → a_fr a_av s s' → s'.1 143 15 = nI i → s'.1 143 16 = nI (i + l) → s'.1 143 14 = 1 → s'.2 143 19 = (if l ≤ 8 then lN (a_code C i l) else -1) → a_re a_isl C k (i + l) = a_re a_isl C (n - i) i → a_let C i l → p_X11_advance_109 K (k + 1) s' := by
          intro k
          induction k with
          | zero =>
            intro l s' hl f' b15 b16 b14 b19 er hd
            have T' := TT_av Ts f'
            have c0 : C (i + l) = 0 := T.2.2.1 _ (by omega)
            have er : i + l = a_re a_isl C (n - i) i := er
            rw [e_X11_advance_109, b16, m_look T' (by omega), c0, e_mLetter (by omega), show a_isl 0 = false from rfl]
            simp only [eq_self, reduceCtorEq, true_implies, false_implies, and_true, true_and, not_true_eq_false, not_false_eq_true, b15, b16, forall_eq]
            rw [pk_sub (show i ≤ i + l by omega), show i + l - i = l by omega]
            exact fin3 l s' (by omega) er f' b15 b16 b14 b19 hd
          | succ k ih =>
            intro l s' hl f' b15 b16 b14 b19 er hd
            have T' := TT_av Ts f'
            have hcl := hC (i + l)
            rw [e_X11_advance_109, b16, m_look T' (by omega), e_mLetter hcl]
            rw [re_s] at er
            cases d : a_isl (C (i + l))
            · rw [d, if_neg (by decide)] at er
              simp only [eq_self, reduceCtorEq, true_implies, false_implies, and_true, true_and, not_true_eq_false, not_false_eq_true, b15, b16, forall_eq]
              rw [pk_sub (show i ≤ i + l by omega), show i + l - i = l by omega]
              exact fin3 l s' (by omega) er f' b15 b16 b14 b19 hd
            · rw [d, if_pos rfl] at er
              simp only [eq_self, reduceCtorEq, true_implies, false_implies, and_true, true_and, not_true_eq_false, not_false_eq_true, b15, b16]
              rw [pk_sub (show i ≤ i + l by omega), show i + l - i = l by omega, m_look T' (by omega)]
              unfold p_X11_advance_166
              have hd' : a_let C i (l + 1) := fun j hj => by
                by_cases ej : j = l
                · rw [ej]; exact d
                · exact hd j (by omega)
              have e16 : ∀ x, (v_sl s' 143 19 x).1 143 16 = nI (i + l) := fun x => b16
              by_cases c8 : 8 ≤ l
              · have n8 : 8 ≤ nI l := nI_le (a := 8) c8 (by omega)
                simp only [n8, eq_self, reduceCtorEq, true_implies, false_implies, and_true, true_and, not_true_eq_false, not_false_eq_true, forall_eq, e16, nIs]
                refine ih (l + 1) _ (by omega) (fr_i (fr_l f' rfl) rfl) b15 si_at b14 ?_ er hd'
                rw [if_neg (by omega)]
                show (v_sl s' 143 19 (-1)).2 143 19 = -1
                exact sl_at
              · have n8 : ¬ 8 ≤ nI l := nI_ge (b := 8) (by omega) (by omega)
                have cd := of_decide_eq_true d
                rw [if_pos (by omega)] at b19
                simp only [n8, eq_self, reduceCtorEq, true_implies, false_implies, and_true, true_and, not_true_eq_false, not_false_eq_true, forall_eq, e16, nIs, b19]
                refine ih (l + 1) _ (by omega) (fr_i (fr_l f' rfl) rfl) b15 si_at b14 ?_ er hd'
                rw [if_pos (by omega)]
                show (lN (a_code C i l) * 32 + (nI (C (i + l))).toInt64) - 96 = _
                rw [nI_lI (by omega), lI_N, lI_N, show (32 : Int64) = lI 32 from rfl, show (96 : Int64) = lI 96 from rfl, lI_mul, lI_add, lI_sub, code_s]
                congr 1
                omega
        exact ⟨n - i + 1, key (n - i) 0 _ (by omega) (fr_l (fr_i (fr_i fr_r rfl) rfl) rfl) e15 rfl rfl rfl rfl (fun j hj => absurd hj (by omega))⟩
    · have n1 : ¬ nI i < nI n := nI_nlt (by omega) (by omega)
      simp only [n1, eq_self, reduceCtorEq, true_implies, false_implies, and_true, true_and, not_true_eq_false, not_false_eq_true, forall_eq]
      rw [tl_end (by omega)] at et
      refine h _ (fr_t f (fr_i (fr_i fr_r rfl) rfl)) ⟨(0, n, 0), [], et.symm, ⟨?_, ?_, ?_, ?_⟩, fun w => absurd rfl w⟩
      · show s.1 143 15 = nI n
        rw [e15, show i = n by omega]
      · exact si_at
      · intro w
        rcases w with w | w
        · exact absurd w (show ¬ 0 = 5 by omega)
        · exact absurd w (show ¬ 0 = 6 by omega)
      · intro w
        rcases w with w | w | w
        · exact absurd w (show ¬ 0 = 2 by omega)
        · exact absurd w (show ¬ 0 = 3 by omega)
        · exact absurd w (show ¬ 0 = 4 by omega)
  have key : ∀ k i s, i + k = n → a_fr a_av S s → s.1 143 15 = nI i → a_tl C n i = a_tl C n q → p_X11_advance_8 K (k + 1) s := by
    intro k
    induction k with
    | zero =>
      intro i s hi f e15 et
      have Ts := TT_av T f
      rw [e_X11_advance_8, e15, Ts.2.2.2.1, show n = i by omega]
      simp only [Int32.le_refl, eq_self, reduceCtorEq, true_implies, false_implies, and_true, true_and, not_true_eq_false, not_false_eq_true]
      exact fin s i f (by omega) e15 et (fun w => absurd w (by omega))
    | succ k ih =>
      intro i s hi f e15 et
      have Ts := TT_av T f
      have hc := hC i
      have n1 : ¬ nI n ≤ nI i := nI_ge (by omega) (by omega)
      have es := tl_s (C := C) (show i < n by omega)
      rw [e_X11_advance_8, e15, Ts.2.2.2.1, m_look Ts (by omega)]
      have eq : ∀ m, m < 256 → (nI (C i) = nI m ↔ C i = m) := fun m hm => nI_eq (by omega) (by omega)
      unfold p_X11_advance_45
      simp only [n1, eq_self, reduceCtorEq, true_implies, false_implies, and_true, true_and, not_true_eq_false, not_false_eq_true, e15, m_look Ts (show i < 2000 by omega), forall_eq, nIs]
      rw [show (10 : Int32) = nI 10 from rfl, show (32 : Int32) = nI 32 from rfl, eq 10 (by omega), eq 32 (by omega)]
      have go : a_isb (C i) = true → p_X11_advance_8 K (k + 1) (v_si s 143 15 (nI (i + 1))) := by
        intro w
        rw [w, if_pos rfl] at es
        exact ih (i + 1) _ (by omega) (fr_i f rfl) si_at (by rw [← es]; exact et)
      refine ⟨fun w => go (decide_eq_true (Or.inl w)), fun w1 => ⟨fun w2 => ?_, fun w => go (decide_eq_true (Or.inr w))⟩⟩
      exact fin s i f (by omega) e15 et (fun _ => decide_eq_false (by omega))
  exact ⟨n - q + 1, key (n - q) q _ (by omega) (fr_i fr_r rfl) si_at rfl⟩
/-! what a token is, asked by the model -/
def a_is (t : aK) (q : Nat) : Bool := decide (t.1 = 2 ∧ t.2.2 = q)
theorem kw_is {S : vSt} {t : aK} {q : Nat} (c : a_mc S t) (ok : a_tkok t) (hq : q < 22) : decide (S.1 143 14 = 1 ∧ S.2 143 19 = lN (a_kc q)) = a_is t q := by
  obtain ⟨-, c14, -, c19⟩ := c
  obtain ⟨-, k6, v2, v3, -, -⟩ := ok
  have hk := kc_lt q hq
  unfold a_is
  rw [decide_eq_decide, c14]
  have nz : ∀ m, m ≠ 1 → m < 10 → ¬ nI m = 1 := fun m h1 h2 w => h1 ((nI_eq (b := 1) (by omega) (by omega)).mp w)
  have neg : ¬ (-1 : Int64) = lN (a_kc q) := by
    intro w
    have h1 : (-1 : Int64).toInt = -1 := by decide
    rw [w, pk_lT (by omega)] at h1
    omega
  unfold a_tkk
  by_cases h2 : t.1 = 2
  · obtain ⟨w, -⟩ := c19 (Or.inl h2)
    have hv := kc_lt _ (v2 h2)
    rw [w, h2]
    unfold a_wv
    rw [if_pos h2, pk_lEQ (by omega) (by omega)]
    constructor
    · rintro ⟨-, e⟩; exact ⟨rfl, kc_inj _ (v2 h2) q hq e⟩
    · rintro ⟨-, e⟩; exact ⟨rfl, by rw [e]⟩
  · by_cases h3 : t.1 = 3
    · obtain ⟨w, -⟩ := c19 (Or.inr (Or.inl h3))
      obtain ⟨v31, v32⟩ := v3 h3
      rw [w, h3]
      unfold a_wv
      rw [if_neg h2, if_pos h3, pk_lEQ (by omega) (by omega)]
      constructor
      · rintro ⟨-, e⟩; exact absurd e (v32 q hq)
      · rintro ⟨e, -⟩; omega
    · by_cases h4 : t.1 = 4
      · obtain ⟨w, -⟩ := c19 (Or.inr (Or.inr h4))
        rw [w]
        unfold a_wv
        rw [if_neg h2, if_neg h3]
        constructor
        · rintro ⟨-, e⟩; exact absurd e neg
        · rintro ⟨e, -⟩; omega
      · constructor
        · rintro ⟨e, -⟩
          refine absurd e ?_
          split
          · exact nz 0 (by omega) (by omega)
          · split
            · exact nz 4 (by omega) (by omega)
            · split
              · exact nz 2 (by omega) (by omega)
              · split
                · exact nz 3 (by omega) (by omega)
                · omega
        · rintro ⟨e, -⟩; exact absurd e h2
theorem e_mWord {S : vSt} {w : Int64} {K : Bool → vSt → Prop} : p_X11_isWord S w K = K (decide (S.1 143 14 = 1 ∧ S.2 143 19 = w)) S := by
  unfold p_X11_isWord
  by_cases c : S.1 143 14 = 1 <;> by_cases d : S.2 143 19 = w <;> simp [c, d]
def a_spl (p q r s t u : Int32) : Int64 :=
  let w := ((p.toInt64 - 96) * 32 + q.toInt64) - 96
  let w := if r ≤ 0 then w else (w * 32 + r.toInt64) - 96
  let w := if s ≤ 0 then w else (w * 32 + s.toInt64) - 96
  let w := if t ≤ 0 then w else (w * 32 + t.toInt64) - 96
  if u ≤ 0 then w else (w * 32 + u.toInt64) - 96
theorem e_spelled {S : vSt} {p q r s t u : Int32} {K : Int64 → vSt → Prop} : p_X11_spelled S p q r s t u K = K (a_spl p q r s t u) S := by
  unfold p_X11_spelled p_X11_spelled_41 p_X11_spelled_65 p_X11_spelled_91 a_spl
  by_cases c1 : r ≤ 0 <;> by_cases c2 : s ≤ 0 <;> by_cases c3 : t ≤ 0 <;> by_cases c4 : u ≤ 0 <;> simp only [c1, c2, c3, c4, forall_eq, eq_self, reduceCtorEq, true_implies, false_implies, and_true, true_and, not_true_eq_false, not_false_eq_true, if_true, if_false]
theorem e_isJurors {S : vSt} {t : aK} {K : Bool → vSt → Prop} (c : a_mc S t) (ok : a_tkok t) : p_X11_isJurors S K = K (a_is t 0) S := by
  unfold p_X11_isJurors
  rw [e_spelled, e_mWord, show a_spl 106 117 114 111 114 115 = lN (a_kc 0) from by decide +kernel, kw_is c ok (by omega)]
theorem e_isFifth {S : vSt} {t : aK} {K : Bool → vSt → Prop} (c : a_mc S t) (ok : a_tkok t) : p_X11_isFifth S K = K (a_is t 1) S := by
  unfold p_X11_isFifth
  rw [e_spelled, e_mWord, show a_spl 102 105 102 116 104 0 = lN (a_kc 1) from by decide +kernel, kw_is c ok (by omega)]
theorem e_isShare {S : vSt} {t : aK} {K : Bool → vSt → Prop} (c : a_mc S t) (ok : a_tkok t) : p_X11_isShare S K = K (a_is t 3) S := by
  unfold p_X11_isShare
  rw [e_spelled, e_mWord, show a_spl 115 104 97 114 101 0 = lN (a_kc 3) from by decide +kernel, kw_is c ok (by omega)]
theorem e_isPerson {S : vSt} {t : aK} {K : Bool → vSt → Prop} (c : a_mc S t) (ok : a_tkok t) : p_X11_isPerson S K = K (a_is t 4) S := by
  unfold p_X11_isPerson
  rw [e_spelled, e_mWord, show a_spl 112 101 114 115 111 110 = lN (a_kc 4) from by decide +kernel, kw_is c ok (by omega)]
theorem e_isSkill {S : vSt} {t : aK} {K : Bool → vSt → Prop} (c : a_mc S t) (ok : a_tkok t) : p_X11_isSkill S K = K (a_is t 6) S := by
  unfold p_X11_isSkill
  rw [e_spelled, e_mWord, show a_spl 115 107 105 108 108 0 = lN (a_kc 6) from by decide +kernel, kw_is c ok (by omega)]
theorem e_isDeed {S : vSt} {t : aK} {K : Bool → vSt → Prop} (c : a_mc S t) (ok : a_tkok t) : p_X11_isDeed S K = K (a_is t 7) S := by
  unfold p_X11_isDeed
  rw [e_spelled, e_mWord, show a_spl 100 101 101 100 0 0 = lN (a_kc 7) from by decide +kernel, kw_is c ok (by omega)]
theorem e_isOf {S : vSt} {t : aK} {K : Bool → vSt → Prop} (c : a_mc S t) (ok : a_tkok t) : p_X11_isOf S K = K (a_is t 8) S := by
  unfold p_X11_isOf
  rw [e_spelled, e_mWord, show a_spl 111 102 0 0 0 0 = lN (a_kc 8) from by decide +kernel, kw_is c ok (by omega)]
theorem e_isFine {S : vSt} {t : aK} {K : Bool → vSt → Prop} (c : a_mc S t) (ok : a_tkok t) : p_X11_isFine S K = K (a_is t 9) S := by
  unfold p_X11_isFine
  rw [e_spelled, e_mWord, show a_spl 102 105 110 101 0 0 = lN (a_kc 9) from by decide +kernel, kw_is c ok (by omega)]
theorem e_isOdds {S : vSt} {t : aK} {K : Bool → vSt → Prop} (c : a_mc S t) (ok : a_tkok t) : p_X11_isOdds S K = K (a_is t 10) S := by
  unfold p_X11_isOdds
  rw [e_spelled, e_mWord, show a_spl 111 100 100 115 0 0 = lN (a_kc 10) from by decide +kernel, kw_is c ok (by omega)]
theorem e_isFor {S : vSt} {t : aK} {K : Bool → vSt → Prop} (c : a_mc S t) (ok : a_tkok t) : p_X11_isFor S K = K (a_is t 13) S := by
  unfold p_X11_isFor
  rw [e_spelled, e_mWord, show a_spl 102 111 114 0 0 0 = lN (a_kc 13) from by decide +kernel, kw_is c ok (by omega)]
theorem e_isEnd {S : vSt} {t : aK} {K : Bool → vSt → Prop} (c : a_mc S t) (ok : a_tkok t) : p_X11_isEnd S K = K (a_is t 20) S := by
  unfold p_X11_isEnd
  rw [e_spelled, e_mWord, show a_spl 101 110 100 0 0 0 = lN (a_kc 20) from by decide +kernel, kw_is c ok (by omega)]
theorem e_isPenalty {S : vSt} {t : aK} {K : Bool → vSt → Prop} (c : a_mc S t) (ok : a_tkok t) : p_X11_isPenalty S K = K (a_is t 2) S := by
  unfold p_X11_isPenalty
  rw [e_spelled, e_mWord, show a_spl 112 101 110 97 108 116 * 32 + 25 = lN (a_kc 2) from by decide +kernel, kw_is c ok (by omega)]
def a_stp (t : aK) : Int32 := if a_is t 11 = true then 0 else if a_is t 12 = true then 1 else if a_is t 14 = true then 2 else if a_is t 15 = true then 3 else if a_is t 16 = true then 4 else if a_is t 19 = true then 5 else if a_is t 21 = true then 6 else -1
def a_tsw (t : aK) : Int32 := if a_is t 17 = true then 0 else if a_is t 18 = true then 1 else if a_is t 5 = true then 2 else -1
theorem e_stepWord {S : vSt} {t : aK} {K : Int32 → vSt → Prop} (c : a_mc S t) (ok : a_tkok t) : p_X11_stepWord S K = K (a_stp t) S := by
  unfold p_X11_stepWord a_stp
  simp only [e_spelled, e_mWord, show a_spl 99 104 97 114 103 101 = lN (a_kc 11) from by decide +kernel, show a_spl 100 114 111 112 0 0 = lN (a_kc 12) from by decide +kernel, show a_spl 101 97 114 110 0 0 = lN (a_kc 14) from by decide +kernel, show a_spl 97 110 121 0 0 0 = lN (a_kc 15) from by decide +kernel, show a_spl 119 104 101 110 0 0 = lN (a_kc 16) from by decide +kernel, show a_spl 108 111 111 112 0 0 = lN (a_kc 19) from by decide +kernel, show a_spl 115 116 111 112 0 0 = lN (a_kc 21) from by decide +kernel, kw_is c ok (show 11 < 22 by omega), kw_is c ok (show 12 < 22 by omega), kw_is c ok (show 14 < 22 by omega), kw_is c ok (show 15 < 22 by omega), kw_is c ok (show 16 < 22 by omega), kw_is c ok (show 19 < 22 by omega), kw_is c ok (show 21 < 22 by omega)]
  by_cases w11 : a_is t 11 = true
  · simp only [w11, eq_self, reduceCtorEq, true_implies, false_implies, and_true, true_and, not_true_eq_false, not_false_eq_true, if_true]
  · rw [Bool.not_eq_true] at w11
    simp only [w11, eq_self, reduceCtorEq, true_implies, false_implies, and_true, true_and, not_true_eq_false, not_false_eq_true, Bool.false_eq_true, if_false]
    by_cases w12 : a_is t 12 = true
    · simp only [w12, eq_self, reduceCtorEq, true_implies, false_implies, and_true, true_and, not_true_eq_false, not_false_eq_true, if_true]
    · rw [Bool.not_eq_true] at w12
      simp only [w12, eq_self, reduceCtorEq, true_implies, false_implies, and_true, true_and, not_true_eq_false, not_false_eq_true, Bool.false_eq_true, if_false]
      by_cases w14 : a_is t 14 = true
      · simp only [w14, eq_self, reduceCtorEq, true_implies, false_implies, and_true, true_and, not_true_eq_false, not_false_eq_true, if_true]
      · rw [Bool.not_eq_true] at w14
        simp only [w14, eq_self, reduceCtorEq, true_implies, false_implies, and_true, true_and, not_true_eq_false, not_false_eq_true, Bool.false_eq_true, if_false]
        by_cases w15 : a_is t 15 = true
        · simp only [w15, eq_self, reduceCtorEq, true_implies, false_implies, and_true, true_and, not_true_eq_false, not_false_eq_true, if_true]
        · rw [Bool.not_eq_true] at w15
          simp only [w15, eq_self, reduceCtorEq, true_implies, false_implies, and_true, true_and, not_true_eq_false, not_false_eq_true, Bool.false_eq_true, if_false]
          by_cases w16 : a_is t 16 = true
          · simp only [w16, eq_self, reduceCtorEq, true_implies, false_implies, and_true, true_and, not_true_eq_false, not_false_eq_true, if_true]
          · rw [Bool.not_eq_true] at w16
            simp only [w16, eq_self, reduceCtorEq, true_implies, false_implies, and_true, true_and, not_true_eq_false, not_false_eq_true, Bool.false_eq_true, if_false]
            by_cases w19 : a_is t 19 = true
            · simp only [w19, eq_self, reduceCtorEq, true_implies, false_implies, and_true, true_and, not_true_eq_false, not_false_eq_true, if_true]
            · rw [Bool.not_eq_true] at w19
              simp only [w19, eq_self, reduceCtorEq, true_implies, false_implies, and_true, true_and, not_true_eq_false, not_false_eq_true, Bool.false_eq_true, if_false]
              by_cases w21 : a_is t 21 = true
              · simp only [w21, eq_self, reduceCtorEq, true_implies, false_implies, and_true, true_and, not_true_eq_false, not_false_eq_true, if_true]
              · rw [Bool.not_eq_true] at w21
                simp only [w21, eq_self, reduceCtorEq, true_implies, false_implies, and_true, true_and, not_true_eq_false, not_false_eq_true, Bool.false_eq_true, if_false]
theorem e_testWord {S : vSt} {t : aK} {K : Int32 → vSt → Prop} (c : a_mc S t) (ok : a_tkok t) : p_X11_testWord S K = K (a_tsw t) S := by
  unfold p_X11_testWord a_tsw
  simp only [e_spelled, e_mWord, show a_spl 111 112 101 110 0 0 = lN (a_kc 17) from by decide +kernel, show a_spl 114 117 105 110 101 100 = lN (a_kc 18) from by decide +kernel, show a_spl 99 111 105 110 115 0 = lN (a_kc 5) from by decide +kernel, kw_is c ok (show 17 < 22 by omega), kw_is c ok (show 18 < 22 by omega), kw_is c ok (show 5 < 22 by omega)]
  by_cases w17 : a_is t 17 = true
  · simp only [w17, eq_self, reduceCtorEq, true_implies, false_implies, and_true, true_and, not_true_eq_false, not_false_eq_true, if_true]
  · rw [Bool.not_eq_true] at w17
    simp only [w17, eq_self, reduceCtorEq, true_implies, false_implies, and_true, true_and, not_true_eq_false, not_false_eq_true, Bool.false_eq_true, if_false]
    by_cases w18 : a_is t 18 = true
    · simp only [w18, eq_self, reduceCtorEq, true_implies, false_implies, and_true, true_and, not_true_eq_false, not_false_eq_true, if_true]
    · rw [Bool.not_eq_true] at w18
      simp only [w18, eq_self, reduceCtorEq, true_implies, false_implies, and_true, true_and, not_true_eq_false, not_false_eq_true, Bool.false_eq_true, if_false]
      by_cases w5 : a_is t 5 = true
      · simp only [w5, eq_self, reduceCtorEq, true_implies, false_implies, and_true, true_and, not_true_eq_false, not_false_eq_true, if_true]
      · rw [Bool.not_eq_true] at w5
        simp only [w5, eq_self, reduceCtorEq, true_implies, false_implies, and_true, true_and, not_true_eq_false, not_false_eq_true, Bool.false_eq_true, if_false]
theorem e_isKept {S : vSt} {t : aK} {K : Bool → vSt → Prop} (c : a_mc S t) (ok : a_tkok t) : p_X11_isKept S K = K (decide (t.1 = 2)) S := by
  unfold p_X11_isKept
  simp only [e_isJurors c ok, e_isFifth c ok, e_isPenalty c ok, e_isShare c ok, e_isPerson c ok, e_isSkill c ok, e_isDeed c ok, e_isOf c ok, e_isFine c ok, e_isOdds c ok, e_isFor c ok, e_isEnd c ok, e_stepWord c ok, e_testWord c ok]
  obtain ⟨-, -, v2, -, -, -⟩ := ok
  obtain ⟨k, p, v⟩ := t
  by_cases h2 : k = 2
  · subst h2
    have hv : v < 22 := v2 rfl
    have cs : v = 0 ∨ v = 1 ∨ v = 2 ∨ v = 3 ∨ v = 4 ∨ v = 5 ∨ v = 6 ∨ v = 7 ∨ v = 8 ∨ v = 9 ∨ v = 10 ∨ v = 11 ∨ v = 12 ∨ v = 13 ∨ v = 14 ∨ v = 15 ∨ v = 16 ∨ v = 17 ∨ v = 18 ∨ v = 19 ∨ v = 20 ∨ v = 21 := by omega
    rcases cs with rfl | rfl | rfl | rfl | rfl | rfl | rfl | rfl | rfl | rfl | rfl | rfl | rfl | rfl | rfl | rfl | rfl | rfl | rfl | rfl | rfl | rfl <;> simp [a_is, a_stp, a_tsw]
  · have f : ∀ q, a_is (k, p, v) q = false := fun q => decide_eq_false (fun w => h2 w.1)
    have f1 : a_stp (k, p, v) = -1 := by unfold a_stp; simp [f]
    have f2 : a_tsw (k, p, v) = -1 := by unfold a_tsw; simp [f]
    have n1 : ¬ (0 : Int32) ≤ -1 := by decide
    simp [f, f1, f2, n1, h2]
theorem e_isName {S : vSt} {t : aK} {K : Bool → vSt → Prop} (c : a_mc S t) (ok : a_tkok t) : p_X11_isName S K = K (decide (t.1 = 3)) S := by
  have hk := e_isKept (K := fun r4 S3 => ((r4 = true → K false S3) ∧ (r4 = false → K true S3))) c ok
  obtain ⟨-, c14, -, c19⟩ := c
  obtain ⟨-, k6, -⟩ := ok
  unfold p_X11_isName
  rw [hk, c14]
  have e1 : nI (a_tkk t.1) = 1 ↔ (t.1 = 2 ∨ t.1 = 3 ∨ t.1 = 4) := by
    have : nI (a_tkk t.1) = nI 1 ↔ a_tkk t.1 = 1 := nI_eq (by unfold a_tkk; split <;> (try split) <;> (try split) <;> (try split) <;> omega) (by omega)
    refine Iff.trans this ?_
    unfold a_tkk
    split
    · omega
    · split
      · omega
      · split
        · omega
        · split <;> omega
  by_cases h : t.1 = 2 ∨ t.1 = 3 ∨ t.1 = 4
  · have h18 := (c19 h).2
    simp only [e1.mpr h, eq_self, reduceCtorEq, true_implies, false_implies, and_true, true_and, not_true_eq_false, not_false_eq_true, h18]
    by_cases h4 : t.1 = 4
    · have : ¬ t.1 = 3 := by omega
      simp [h4]
    · by_cases h2 : t.1 = 2
      · simp [h2]
      · have h3 : t.1 = 3 := by omega
        simp [h3]
  · have e1' : ¬ nI (a_tkk t.1) = 1 := fun w => h (e1.mp w)
    have : ¬ t.1 = 3 := fun w => h (by omega)
    simp only [e1', eq_self, reduceCtorEq, true_implies, false_implies, and_true, true_and, not_true_eq_false, not_false_eq_true, decide_eq_false this]
theorem tkk_eq {t : aK} {k m : Nat} (ok : a_tkok t) (hm : (k = 0 ∧ m = 0) ∨ (k = 1 ∧ m = 4) ∨ (k = 5 ∧ m = 2) ∨ (k = 6 ∧ m = 3)) : nI (a_tkk t.1) = nI m ↔ t.1 = k := by
  have k6 := ok.2.1
  have lt : a_tkk t.1 < 5 := by unfold a_tkk; split <;> (try split) <;> (try split) <;> (try split) <;> omega
  rw [nI_eq (by omega) (by omega)]
  unfold a_tkk
  split
  · omega
  · split
    · omega
    · split
      · omega
      · split <;> omega
theorem e_isSign {S : vSt} {t : aK} {x : Nat} {K : Bool → vSt → Prop} (c : a_mc S t) (ok : a_tkok t) (hx : x < 256) : p_X11_isSign S (nI x) K = K (decide (t.1 = 6 ∧ t.2.2 = x)) S := by
  obtain ⟨-, c14, c17, -⟩ := c
  have e := tkk_eq (k := 6) (m := 3) ok (by omega)
  have v6 := ok.2.2.2.2.2
  unfold p_X11_isSign
  rw [c14, show (3 : Int32) = nI 3 from rfl, e]
  by_cases h : t.1 = 6
  · have hv := v6 h
    rw [c17 (Or.inr h), nI_eq (by omega) (by omega)]
    by_cases d : t.2.2 = x <;> simp [h, d]
  · simp [h]
