/-! the class's years -/
def a_ygd (g : aY × List aK) (S' : vSt) : Prop := a_XR S' g.2 ∧ a_YD S' g.1
theorem x_begins {S : vSt} {t : aK} {K : Bool → vSt → Prop} (ok : a_tkok t) : p_X9_beginsStep S (a_wnw t) K = K (decide (t.1 = 2 ∧ a_bgs t.2.2 = true)) S := by
  have e := fun (q : Nat) (hq : q < 22) => wn_eq (t := t) (q := q) ok hq
  unfold p_X9_beginsStep
  rw [show (11 : Int32) = nI 11 from rfl, show (12 : Int32) = nI 12 from rfl, show (14 : Int32) = nI 14 from rfl, show (15 : Int32) = nI 15 from rfl, show (16 : Int32) = nI 16 from rfl, show (19 : Int32) = nI 19 from rfl, show (21 : Int32) = nI 21 from rfl, e 11 (by omega), e 12 (by omega), e 14 (by omega), e 15 (by omega), e 16 (by omega), e 19 (by omega), e 21 (by omega)]
  unfold a_is a_bgs
  simp only [decide_eq_true_iff]
  by_cases k2 : t.1 = 2
  · by_cases c1 : t.2.2 = 11
    · simp [k2, c1]
    · by_cases c2 : t.2.2 = 12
      · simp [k2, c2]
      · by_cases c3 : t.2.2 = 14
        · simp [k2, c3]
        · by_cases c4 : t.2.2 = 15
          · simp [k2, c4]
          · by_cases c5 : t.2.2 = 16
            · simp [k2, c5]
            · by_cases c6 : t.2.2 = 19
              · simp [k2, c6]
              · by_cases c7 : t.2.2 = 21
                · simp [k2, c7]
                · simp [k2, c1, c2, c3, c4, c5, c6, c7]
  · simp [k2]
theorem x_188 {S0 S : vSt} {s : aY} {w : Nat} {R : List aK} {K : Bool → vSt → Prop} {r : aF ⊕ (aL × List aK)} (f : a_fr a_ycf S0 S) (hw : ∀ g, r = .inr g → a_wf g.2) (h : a_XY S0 K a_ygd (a_bi r (fun g => a_bi (a_semi g.2) (fun R' => .inr (a_yad s w g.1, R'))))) : a_XY S (fun b S' => p_X9_readStep_188 K S' b) (a_hgd s w) r := by
  refine XY_bi f h (fun S' k => ?_) (fun g S1 e1 f1 g1 t1 h => ?_)
  · unfold p_X9_readStep_188
    simp only [eq_self, reduceCtorEq, true_implies, false_implies, and_true, true_and, not_true_eq_false, not_false_eq_true]
    exact k
  · obtain ⟨xr1, yd1⟩ := t1
    unfold p_X9_readStep_188
    simp only [eq_self, reduceCtorEq, true_implies, false_implies, and_true, true_and, not_true_eq_false, not_false_eq_true]
    refine x_takeSemi (hw g e1) xr1 (XY_F (XY_bi f1 h (fun S' k => ?_) (fun R' S2 e2 f2 g2 t2 h => ?_)))
    · simp only [eq_self, reduceCtorEq, true_implies, false_implies, and_true, true_and, not_true_eq_false, not_false_eq_true]
      exact k
    · obtain ⟨pf2, xr2⟩ := t2
      simp only [eq_self, reduceCtorEq, true_implies, false_implies, and_true, true_and, not_true_eq_false, not_false_eq_true]
      exact h S2 f2 ⟨xr2, YD_fr yd1 (fr_w pf2 psf_pnf)⟩
theorem x_76 {S0 S : vSt} {s : aY} {R : List aK} {m : Nat → Int32} {nm : Nat → Nat} {K : Bool → vSt → Prop} (f : a_fr a_ycf S0 S) (cn : a_CN S m nm) (wf : a_wf R) (xr : a_XR S R) (yd : a_YD S s) (yi : a_YI s) (hK : s.2.2.2.1 < 30) (hk : (a_h0 R).1 = 2) (hb : a_bgs (a_h0 R).2.2 = true) (hd : a_ope (a_h0 R).2.2 = true → s.2.2.2.2.length < 3) (h : a_XY S0 K a_ygd (a_bi (a_hdl m nm (a_h0 R).2.2 R.tail) (fun g => a_bi (a_semi g.2) (fun R' => .inr (a_yad s (a_h0 R).2.2 g.1, R'))))) : p_X9_readStep_76 K S (nI (a_h0 R).2.2) := by
  have wt := wf_tl wf (show (a_h0 R).1 ≠ 0 by omega)
  unfold p_X9_readStep_76
  refine x_pas wf (by omega) xr (fun S1 f1 xr1 _ => ?_)
  have F1 := fr_w f1 psf_ycf
  have cn1 := CN_fr cn F1
  have yd1 := YD_fr yd (fr_w f1 psf_pnf)
  have hw : ∀ g, a_hdl m nm (a_h0 R).2.2 R.tail = .inr g → a_wf g.2 := fun g e => (hd_ok wt e).1
  have go := x_188 (R := R.tail) (fr_t f F1) hw h
  have hb := of_decide_eq_true hb
  generalize (a_h0 R).2.2 = w at go hb hd
  rcases hb with rfl | rfl | rfl | rfl | rfl | rfl | rfl
  · refine ⟨?_, ?_, ?_, ?_, ?_, ?_, ?_, ?_, ?_, ?_⟩ <;> intro q <;> first | exact absurd q (by decide) | skip
    exact x_readCharge cn1 wt xr1 yd1 yi hK go
  · refine ⟨?_, ?_, ?_, ?_, ?_, ?_, ?_, ?_, ?_, ?_⟩ <;> intro q <;> first | exact absurd q (by decide) | skip
    exact x_readDrop cn1 wt xr1 yd1 yi hK go
  · refine ⟨?_, ?_, ?_, ?_, ?_, ?_, ?_, ?_, ?_, ?_⟩ <;> intro q <;> first | exact absurd q (by decide) | skip
    exact x_readEarn cn1 wt xr1 yd1 yi hK go
  · refine ⟨?_, ?_, ?_, ?_, ?_, ?_, ?_, ?_, ?_, ?_⟩ <;> intro q <;> first | exact absurd q (by decide) | skip
    exact x_addS (w := 15) (g := (-1, -1, 0)) fr_r xr1 yd1 yi hK (by omega) (by omega) rfl go (fun _ _ k => k)
  · refine ⟨?_, ?_, ?_, ?_, ?_, ?_, ?_, ?_, ?_, ?_⟩ <;> intro q <;> first | exact absurd q (by decide) | skip
    exact x_readTest cn1 wt xr1 yd1 yi hK (hd rfl) go
  · refine ⟨?_, ?_, ?_, ?_, ?_, ?_, ?_, ?_, ?_, ?_⟩ <;> intro q <;> first | exact absurd q (by decide) | skip
    exact x_readLoop wt xr1 yd1 yi hK (hd rfl) go
  · refine ⟨?_, ?_, ?_, ?_, ?_, ?_, ?_, ?_, ?_, ?_⟩ <;> intro q <;> first | exact absurd q (by decide) | skip
    exact x_addS (w := 21) (g := (-1, -1, 0)) fr_r xr1 yd1 yi hK (by omega) (by omega) rfl go (fun _ _ k => k)
theorem x_readStep {S : vSt} {s : aY} {R : List aK} {m : Nat → Int32} {nm : Nat → Nat} {K : Bool → vSt → Prop} (cn : a_CN S m nm) (wf : a_wf R) (xr : a_XR S R) (yd : a_YD S s) (yi : a_YI s) (h : a_XY S K a_ygd (a_yst m nm s R)) : p_X9_readStep S K := by
  have tok := wf_ok wf
  obtain ⟨y1, y2, y3, -⟩ := id yi
  unfold p_X9_readStep
  rw [x_wordNow wf xr, x_begins tok]
  unfold a_yst at h
  by_cases q : (a_h0 R).1 = 2 ∧ a_bgs (a_h0 R).2.2 = true
  · rw [if_pos q] at h
    rw [decide_eq_true q]
    simp only [eq_self, reduceCtorEq, true_implies, false_implies, and_true, true_and, not_true_eq_false, not_false_eq_true]
    have e7 := yd.1.2.2.1
    rw [e7]
    by_cases c30 : s.2.2.2.1 = 30
    · have n1 : ¬ nI s.2.2.2.1 < 30 := nI_nlt (b := 30) (by omega) (by omega)
      rw [if_pos c30] at h
      simp only [n1, eq_self, reduceCtorEq, true_implies, false_implies, and_true, true_and, not_true_eq_false, not_false_eq_true]
      refine x_blame (f := 6) wf xr (fun S' f b1 b2 => ?_)
      rw [bl_2 (by omega)] at b1 b2
      exact h S' (fr_w f ccf_ycf) b1 b2
    · have n1 : nI s.2.2.2.1 < 30 := nI_lt (b := 30) (by omega) (by omega)
      rw [if_neg c30] at h
      simp only [n1, eq_self, reduceCtorEq, true_implies, false_implies, and_true, true_and, not_true_eq_false, not_false_eq_true]
      have ew : a_wnw (a_h0 R) = nI (a_h0 R).2.2 := if_pos q.1
      have go : (a_ope (a_h0 R).2.2 = true → s.2.2.2.2.length < 3) → p_X9_readStep_76 K S (nI (a_h0 R).2.2) := by
        intro hd
        rw [if_neg (fun w => by have := hd w.1; omega)] at h
        exact x_76 fr_r cn wf xr yd yi (by omega) q.1 q.2 hd h
      have go2 : a_ope (a_h0 R).2.2 = true → p_X9_readStep_58 K S (nI (a_h0 R).2.2) := by
        intro o
        unfold p_X9_readStep_58
        rw [yd.2.1]
        by_cases c3 : s.2.2.2.2.length = 3
        · have n2 : ¬ nI s.2.2.2.2.length < 3 := nI_nlt (b := 3) (by omega) (by omega)
          rw [if_pos ⟨o, c3⟩] at h
          simp only [n2, eq_self, reduceCtorEq, true_implies, false_implies, and_true, true_and, not_true_eq_false, not_false_eq_true]
          refine x_blame (f := 7) wf xr (fun S' f b1 b2 => ?_)
          rw [bl_2 (by omega)] at b1 b2
          exact h S' (fr_w f ccf_ycf) b1 b2
        · have n2 : nI s.2.2.2.2.length < 3 := nI_lt (b := 3) (by omega) (by omega)
          simp only [n2, eq_self, reduceCtorEq, true_implies, false_implies, and_true, true_and, not_true_eq_false, not_false_eq_true]
          exact go (fun _ => by omega)
      have v22 := tok.2.2.1 q.1
      rw [ew]
      have e16 : nI (a_h0 R).2.2 = 16 ↔ (a_h0 R).2.2 = 16 := nI_eq (b := 16) (by omega) (by omega)
      have e19 : nI (a_h0 R).2.2 = 19 ↔ (a_h0 R).2.2 = 19 := nI_eq (b := 19) (by omega) (by omega)
      rw [e16, e19]
      by_cases c16 : (a_h0 R).2.2 = 16
      · have o : a_ope (a_h0 R).2.2 = true := decide_eq_true (Or.inl c16)
        exact ⟨fun _ => go2 o, fun w => absurd c16 w⟩
      · by_cases c19 : (a_h0 R).2.2 = 19
        · have o : a_ope (a_h0 R).2.2 = true := decide_eq_true (Or.inr c19)
          exact ⟨fun w => absurd w c16, fun _ => ⟨fun w => absurd c19 w, fun _ => go2 o⟩⟩
        · have o : a_ope (a_h0 R).2.2 = false := decide_eq_false (by omega)
          exact ⟨fun w => absurd w c16, fun _ => ⟨fun _ => go (fun w => by rw [o] at w; cases w), fun w => absurd w c19⟩⟩
  · rw [if_neg q] at h
    rw [decide_eq_false q]
    simp only [eq_self, reduceCtorEq, true_implies, false_implies, and_true, true_and, not_true_eq_false, not_false_eq_true]
    exact x_blame (f := 2) wf xr (fun S' f b1 b2 => h S' (fr_w f ccf_ycf) b1 b2)
theorem x_readEnd {S : vSt} {s : aY} {R : List aK} {K : Bool → vSt → Prop} (wf : a_wf R) (xr : a_XR S R) (yd : a_YD S s) (yi : a_YI s) (hk : a_is (a_h0 R) 20 = true) (h : a_XY S K a_ygd (a_yen s R)) : p_X9_readEnd S K := by
  obtain ⟨y1, y2, y3, y4⟩ := yi
  obtain ⟨⟨a, b, d, e⟩, d4, st⟩ := yd
  obtain ⟨W, y, N, Kk, σ⟩ := s
  unfold p_X9_readEnd
  rw [d4]
  unfold a_yen at h
  cases σ with
  | nil =>
    have n1 : ¬ (0 : Int32) < nI 0 := by decide
    simp only [List.length_nil, n1, eq_self, reduceCtorEq, true_implies, false_implies, and_true, true_and, not_true_eq_false, not_false_eq_true]
    exact x_blame (f := 2) wf xr (fun S' f b1 b2 => h S' (fr_w f ccf_ycf) b1 b2)
  | cons q σ =>
    obtain ⟨l, k⟩ := q
    obtain ⟨s57, st⟩ := st
    simp only [List.length_cons] at y1 y2 y3 y4 d4 ⊢
    simp only at a b d s57
    have lN' := (y4 (l, k) (List.mem_cons_self ..)).1
    simp only at lN'
    have hN : N < 60 := by omega
    have n1 : (0 : Int32) < nI (σ.length + 1) := nI_lt (a := 0) (by omega) (by omega)
    have es : nI (σ.length + 1) - 1 = nI σ.length := by rw [show (1 : Int32) = nI 1 from rfl, pk_sub (by omega)]; rfl
    simp only [n1, eq_self, reduceCtorEq, true_implies, false_implies, and_true, true_and, not_true_eq_false, not_false_eq_true, es, forall_eq]
    have e56 : (v_si S 56 4 (nI σ.length)).1 56 4 = nI σ.length := si_at
    rw [e56, e_at (show σ.length < 3 by omega) (by omega)]
    have e57 : (v_si S 56 4 (nI σ.length)).1 57 σ.length = nI l := s57
    rw [e57]
    have n20 : ¬ ¬ (20 : Int32) = 20 := by decide
    unfold p_X8_add p_X8_join
    show ∀ y8 : Int32, y8 = S.1 47 6 → ∀ S9, S9 = v_si (v_si S 56 4 (nI σ.length)) 47 6 (S.1 47 6 + 1) → p_X10_put 48 60 S9 y8 20 _
    rw [b, nIs]
    rintro _ rfl _ rfl
    simp only [e_put hN (show 60 < 2 ^ 31 by omega), eq_self, reduceCtorEq, true_implies, false_implies, and_true, true_and, not_true_eq_false, not_false_eq_true]
    show p_X10_put 52 60 _ (nI l) (nI N) _
    rw [e_put (show l < 60 by omega) (by omega)]
    show p_X6_pass (v_si (v_si (v_si (v_si (v_si (v_si (v_si (v_si S 56 4 (nI σ.length)) 47 6 (nI (N + 1))) 48 N 20) 49 N (-1)) 50 N (-1)) 51 N 0) 52 l (nI N)) 52 N (nI l)) _
    have fA : a_fr (fun k j => decide ((k = 56 ∧ j = 4) ∨ (k = 47 ∧ j = 6) ∨ (48 ≤ k ∧ k ≤ 52))) S (v_si (v_si (v_si (v_si (v_si (v_si (v_si (v_si S 56 4 (nI σ.length)) 47 6 (nI (N + 1))) 48 N 20) 49 N (-1)) 50 N (-1)) 51 N 0) 52 l (nI N)) 52 N (nI l)) := fr_i (fr_i (fr_i (fr_i (fr_i (fr_i (fr_i (fr_i fr_r rfl) rfl) rfl) rfl) rfl) rfl) rfl) rfl
    have fY : a_fr a_ycf S (v_si (v_si (v_si (v_si (v_si (v_si (v_si (v_si S 56 4 (nI σ.length)) 47 6 (nI (N + 1))) 48 N 20) 49 N (-1)) 50 N (-1)) 51 N 0) 52 l (nI N)) 52 N (nI l)) := fr_i (fr_i (fr_i (fr_i (fr_i (fr_i (fr_i (fr_i fr_r rfl) rfl) rfl) rfl) rfl) rfl) rfl) rfl
    have ydA : a_YD (v_si (v_si (v_si (v_si (v_si (v_si (v_si (v_si S 56 4 (nI σ.length)) 47 6 (nI (N + 1))) 48 N 20) 49 N (-1)) 50 N (-1)) 51 N 0) 52 l (nI N)) 52 N (nI l)) (a_wp (a_wp (a_w4 W N 20 (-1, -1, 0)) l N) N l, a_set y (9 * k + 8) (nI Kk), N + 1, Kk, σ) := by
      refine ⟨⟨fun c i h1 h2 => ?_, ?_, ?_, ?_⟩, ?_, ?_⟩
      · show _ = a_wp (a_wp (a_w4 W N 20 (-1, -1, 0)) l N) N l c i
        have e0 : (v_si (v_si (v_si (v_si (v_si (v_si (v_si (v_si S 56 4 (nI σ.length)) 47 6 (nI (N + 1))) 48 N 20) 49 N (-1)) 50 N (-1)) 51 N 0) 52 l (nI N)) 52 N (nI l)).1 (48 + c) i = (v_si (v_si (v_si (v_si (v_si (v_si S 48 N 20) 49 N (-1)) 50 N (-1)) 51 N 0) 52 l (nI N)) 52 N (nI l)).1 (48 + c) i := by
          have n47 : ¬ (48 + c = 47 ∧ i = 6) := by omega
          have n56 : ¬ (48 + c = 56 ∧ i = 4) := by omega
          simp only [si1, if_neg n47, if_neg n56]
        rw [e0]
        unfold a_wp a_w4
        simp only [si1]
        match c, h1 with
        | 0, _ =>
          have := a 0 i (by omega) h2
          by_cases q : i = N
          · simp [q]
          · simp [q]
            exact this
        | 1, _ =>
          have := a 1 i (by omega) h2
          by_cases q : i = N
          · simp [q]
          · simp [q]
            exact this
        | 2, _ =>
          have := a 2 i (by omega) h2
          by_cases q : i = N
          · simp [q]
          · simp [q]
            exact this
        | 3, _ =>
          have := a 3 i (by omega) h2
          by_cases q : i = N
          · simp [q]
          · simp [q]
            exact this
        | 4, _ =>
          by_cases q : i = N
          · simp [q]
          · by_cases q2 : i = l
            · simp [q, q2]
            · have := a 4 i (by omega) h2
              simp [q, q2]
              exact this
      · show (v_si (v_si S 56 4 (nI σ.length)) 47 6 (nI (N + 1))).1 47 6 = nI (N + 1)
        exact si_at
      · exact d
      · exact e
      · exact (show (v_si S 56 4 (nI σ.length)).1 56 4 = nI σ.length from si_at)
      · exact stk_eq (S := S) σ (fun j _ => rfl) st
    generalize (v_si (v_si (v_si (v_si (v_si (v_si (v_si (v_si S 56 4 (nI σ.length)) 47 6 (nI (N + 1))) 48 N 20) 49 N (-1)) 50 N (-1)) 51 N 0) 52 l (nI N)) 52 N (nI l)) = S1 at fA fY ydA
    have xr1 := XR_ycf xr fA (fun k j w => decide_eq_false (by omega))
    have wt := wf_tl wf (is_k hk).1
    refine x_pas wf (is_k hk).1 xr1 (fun S2 f2 xr2 _ => ?_)
    have yd2 := YD_fr ydA (fr_w f2 psf_pnf)
    have F2 := fr_t fY (fr_w f2 psf_ycf)
    refine x_takeSemi wt xr2 (XY_F (XY_bi F2 h (fun S' k => k) (fun R' S3 e3 f3 g3 t3 h => ?_)))
    obtain ⟨pf3, xr3⟩ := t3
    exact h S3 f3 ⟨xr3, YD_fr yd2 (fr_w pf3 psf_pnf)⟩
