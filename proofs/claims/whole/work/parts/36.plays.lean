/-! the model's game -/
theorem mv_1 {m : Nat → Int32} {p o d : Nat} : a_mv m p o d = 1 ↔ (m (48 + d) = nI o ∧ a_can m p d = true) := by
  unfold a_mv
  split
  · next q => exact ⟨fun _ => q, fun _ => rfl⟩
  · next q =>
    refine ⟨fun w => ?_, fun w => absurd w q⟩
    split at w <;> omega
theorem mv_2 {m : Nat → Int32} {p o d : Nat} (n : ¬ nI o = nI p) : a_mv m p o d = 2 ↔ (m (48 + d) = nI p ∧ a_can m o d = true) := by
  unfold a_mv
  split
  · next q => exact ⟨fun w => absurd w (by omega), fun w => absurd (q.1.symm.trans w.1) n⟩
  · split
    · next q => exact ⟨fun _ => q, fun _ => rfl⟩
    · next q => exact ⟨fun w => absurd w (by omega), fun w => absurd w q⟩
def a_w (p o : Nat) (f : Bool) : Nat := if f = true then p else o
theorem cd_w {m : Nat → Int32} {p o c d : Nat} {f : Bool} (n : ¬ nI o = nI p) : a_cd m p o f c d = (decide (m (48 + d) = nI (a_w o p f)) && !c.testBit d && a_can m (a_w p o f) d) := by
  cases f
  · have e : decide (a_mv m p o d = if false = true then 1 else 2) = (decide (m (48 + d) = nI p) && a_can m o d) := by
      rw [Bool.eq_iff_iff, Bool.and_eq_true, decide_eq_true_iff, decide_eq_true_iff, if_neg (by decide)]
      exact mv_2 n
    show (decide (a_mv m p o d = if false = true then 1 else 2) && !c.testBit d) = (decide (m (48 + d) = nI p) && !c.testBit d && a_can m o d)
    rw [e, Bool.and_assoc, Bool.and_assoc, Bool.and_comm (a_can m o d)]
  · have e : decide (a_mv m p o d = if true = true then 1 else 2) = (decide (m (48 + d) = nI o) && a_can m p d) := by
      rw [Bool.eq_iff_iff, Bool.and_eq_true, decide_eq_true_iff, decide_eq_true_iff, if_pos rfl]
      exact mv_1
    show (decide (a_mv m p o d = if true = true then 1 else 2) && !c.testBit d) = (decide (m (48 + d) = nI o) && !c.testBit d && a_can m p d)
    rw [e, Bool.and_assoc, Bool.and_assoc, Bool.and_comm (a_can m p d)]
theorem wo_w {m : Nat → Int32} {p o c d : Nat} {f : Bool} (h : a_cd m p o f c d = true) : a_wo m p o d = if f = true then a_gain m (a_w p o f) d + a_loss m (a_w p o f) d else -(a_gain m (a_w p o f) d + a_loss m (a_w p o f) d) := by
  unfold a_cd at h
  rw [Bool.and_eq_true, decide_eq_true_iff] at h
  have q := h.1
  cases f
  · rw [if_neg (by decide)] at q
    unfold a_wo
    rw [q, if_neg (by omega), if_neg (by decide)]
    show _ = -(a_gain m o d + a_loss m o d)
    omega
  · rw [if_pos rfl] at q
    unfold a_wo
    rw [q, if_pos rfl, if_pos rfl]
    rfl
def a_wi (m : Nat → Int32) (p o k : Nat) (f : Bool) (c : Nat) : Int32 := match v_first (fun d => a_cd m p o f c d && decide (a_pv m p o k f c d = a_pl m p o (k + 1) f c)) (a_D m) with
  | none => nI (a_D m)
  | some j => nI j
theorem wi_none {m : Nat → Int32} {p o k c : Nat} {f : Bool} (h : ∀ l, l < a_D m → a_cd m p o f c l = true → a_pv m p o k f c l ≠ a_pl m p o (k + 1) f c) : a_wi m p o k f c = nI (a_D m) := by
  unfold a_wi
  rw [first_none (a_D m) (fun l hl => ?_)]
  cases q : a_cd m p o f c l
  · rfl
  · rw [decide_eq_false (h l hl q)]; rfl
theorem wi_some {m : Nat → Int32} {p o k c j : Nat} {f : Bool} (h : a_jb f (a_cd m p o f c) (a_pv m p o k f c) (a_D m) j) (e : a_pl m p o (k + 1) f c = a_pv m p o k f c j) : a_wi m p o k f c = nI j := by
  obtain ⟨h1, h2, h3, h4⟩ := h
  have e1 : ∀ l, l < j → (fun d => a_cd m p o f c d && decide (a_pv m p o k f c d = a_pl m p o (k + 1) f c)) l = false := by
    intro l hl
    show (a_cd m p o f c l && decide (a_pv m p o k f c l = a_pl m p o (k + 1) f c)) = false
    cases q : a_cd m p o f c l
    · rfl
    · rw [e, decide_eq_false (h4 l hl q)]; rfl
  have e2 : (fun d => a_cd m p o f c d && decide (a_pv m p o k f c d = a_pl m p o (k + 1) f c)) j = true := by
    show (a_cd m p o f c j && decide (a_pv m p o k f c j = a_pl m p o (k + 1) f c)) = true
    rw [h2, e, decide_eq_true rfl]; rfl
  unfold a_wi
  rw [first_some e1 e2 (a_D m) h1]
theorem m_plays {m : Nat → Int32} {p o : Nat} (ok : a_ok m) (hp : p < a_P m) (ho : o < a_P m) (n : p ≠ o) : ∀ (k fu t T c : Nat) (f : Bool) (S : vSt) (K : Int64 → vSt → Prop), T = t + k → T ≤ 3 → f = decide (t % 2 = 0) → c < 1024 → a_M S 0 m → (∀ S', a_fr a_sm S S' → (t = 0 → ∀ k', k = k' + 1 → S'.1 143 29 = a_wi m p o k' f c) → K (lI (a_pl m p o k f c)) S') → p_X11_plays (k + 1 + fu) S (nI p) (nI o) (nI t) (nI T) (nI c) K
  | 0, fu, t, T, c, f, S, K, hT, hk, hf, hc, M, h => by
    rw [show 0 + 1 + fu = fu + 1 by omega]
    show pb_X11_plays (p_X11_plays fu) S (nI p) (nI o) (nI t) (nI T) (nI c) K
    unfold pb_X11_plays
    rw [show T = t by omega]
    simp only [eq_self, reduceCtorEq, true_implies, false_implies, and_true, true_and, not_true_eq_false, not_false_eq_true]
    exact h S fr_r (fun _ k' e => absurd e (by omega))
  | k + 1, fu, t, T, c, f, S, K, hT, hk, hf, hc, M, h => by
    have h8 := ok_P8 ok
    have h10 := ok_D10 ok
    have npo : ¬ nI o = nI p := fun w => n ((nI_eq (by omega) (by omega)).mp w.symm)
    rw [show k + 1 + 1 + fu = (k + 1 + fu) + 1 by omega]
    show pb_X11_plays (p_X11_plays (k + 1 + fu)) S (nI p) (nI o) (nI t) (nI T) (nI c) K
    have hf2 := par_n hf
    have ih := m_plays ok hp ho n k fu
    have hw : a_w p o f < a_P m := by unfold a_w; split <;> assumption
    have key : ∃ fu2, (p_X11_plays_54 (nI p) (nI o) (nI t) (nI T) (nI c) (p_X11_plays (k + 1 + fu)) K fu2) S f (nI (a_w p o f)) (nI (a_w o p f)) 0 (-1) 0 := by
      refine v_loop (fun fu2 i (z : vSt × Int64 × Int32) => (p_X11_plays_54 (nI p) (nI o) (nI t) (nI T) (nI c) (p_X11_plays (k + 1 + fu)) K fu2) z.1 f (nI (a_w p o f)) (nI (a_w o p f)) z.2.1 z.2.2 (nI i)) (fun i z => a_fr a_sm S z.1 ∧ (i ≤ a_D m → (z.2.2 = -1 ∧ ∀ j, j < i → a_cd m p o f c j = false) ∨ ∃ j, a_jb f (a_cd m p o f c) (a_pv m p o k f c) i j ∧ z.2.2 = nI j ∧ z.2.1 = lI (a_pv m p o k f c j)) ∧ (i = a_D m + 1 → z.2.1 = lI (a_pl m p o (k + 1) f c) ∧ z.2.2 = a_wi m p o k f c)) (a_D m + 1) (fun fu2 i z hi hI hk2 => ?_) (fun fu2 z hI => ?_) (S, 0, -1) ⟨fr_r, fun _ => Or.inl ⟨rfl, fun j hj => absurd hj (by omega)⟩, fun e => absurd e (by omega)⟩
      · obtain ⟨s, b, w⟩ := z
        obtain ⟨fs, hJ, -⟩ := hI
        have hJ := hJ (by omega)
        simp only at fs hJ
        have M1 := M_m M fs
        have n1 : ¬ nI (a_D m) < nI i := nI_nlt (by omega) (by omega)
        have up : ∀ (s' : vSt) (y : Int), a_fit y → ((w = -1 ∧ (∀ j, j < i → a_cd m p o f c j = false) ∨ ∃ j, a_jb f (a_cd m p o f c) (a_pv m p o k f c) i j ∧ ¬ a_nbt f y (a_pv m p o k f c j)) → (p_X11_plays_54 (nI p) (nI o) (nI t) (nI T) (nI c) (p_X11_plays (k + 1 + fu)) K fu2) s' f (nI (a_w p o f)) (nI (a_w o p f)) (lI y) (nI i) (nI (i + 1))) → (∀ j, a_jb f (a_cd m p o f c) (a_pv m p o k f c) i j → w = nI j → b = lI (a_pv m p o k f c j) → a_nbt f y (a_pv m p o k f c j) → (p_X11_plays_54 (nI p) (nI o) (nI t) (nI T) (nI c) (p_X11_plays (k + 1 + fu)) K fu2) s' f (nI (a_w p o f)) (nI (a_w o p f)) b w (nI (i + 1))) → ((w < 0 → p_X11_plays_231 (nI p) (nI o) (nI t) (nI T) (nI c) (p_X11_plays (k + 1 + fu)) (p_X11_plays_54 (nI p) (nI o) (nI t) (nI T) (nI c) (p_X11_plays (k + 1 + fu)) K fu2) K s' f (nI (a_w p o f)) (nI (a_w o p f)) (nI i) (lI y)) ∧ (¬ w < 0 → ((f = false → ((lI y < b → p_X11_plays_231 (nI p) (nI o) (nI t) (nI T) (nI c) (p_X11_plays (k + 1 + fu)) (p_X11_plays_54 (nI p) (nI o) (nI t) (nI T) (nI c) (p_X11_plays (k + 1 + fu)) K fu2) K s' f (nI (a_w p o f)) (nI (a_w o p f)) (nI i) (lI y)) ∧ (¬ lI y < b → p_X11_plays_239 (nI p) (nI o) (nI t) (nI T) (nI c) (p_X11_plays (k + 1 + fu)) (p_X11_plays_54 (nI p) (nI o) (nI t) (nI T) (nI c) (p_X11_plays (k + 1 + fu)) K fu2) K s' f (nI (a_w p o f)) (nI (a_w o p f)) b w (nI i)))) ∧ (f = true → ((b < lI y → p_X11_plays_231 (nI p) (nI o) (nI t) (nI T) (nI c) (p_X11_plays (k + 1 + fu)) (p_X11_plays_54 (nI p) (nI o) (nI t) (nI T) (nI c) (p_X11_plays (k + 1 + fu)) K fu2) K s' f (nI (a_w p o f)) (nI (a_w o p f)) (nI i) (lI y)) ∧ (¬ b < lI y → p_X11_plays_239 (nI p) (nI o) (nI t) (nI T) (nI c) (p_X11_plays (k + 1 + fu)) (p_X11_plays_54 (nI p) (nI o) (nI t) (nI T) (nI c) (p_X11_plays (k + 1 + fu)) K fu2) K s' f (nI (a_w p o f)) (nI (a_w o p f)) b w (nI i))))))) := by
          intro s' y hy tk kp
          unfold p_X11_plays_231 p_X11_plays_239
          simp only [forall_eq, nIs]
          rcases hJ with ⟨w1, w2⟩ | ⟨j, jb, w1, w2⟩
          · refine ⟨fun _ => tk (Or.inl ⟨w1, w2⟩), fun q => absurd ?_ q⟩
            rw [w1]; decide
          · have q : ¬ w < 0 := by rw [w1]; exact nI_pos (by have := jb.1; omega)
            have fj := pv_fit ok p o (show k ≤ 3 by omega) f c (d := j) (by have := jb.1; omega)
            refine ⟨fun q' => absurd q' q, fun _ => ?_⟩
            by_cases e : a_nbt f y (a_pv m p o k f c j)
            · have kp' := kp j jb w1 w2 e
              refine ⟨fun ef => ⟨fun lt => absurd e ?_, fun _ => kp'⟩, fun ef => ⟨fun lt => absurd e ?_, fun _ => kp'⟩⟩
              · rw [w2, lI_lt hy fj] at lt
                unfold a_nbt
                rw [if_neg (by rw [ef]; decide)]
                omega
              · rw [w2, lI_lt fj hy] at lt
                unfold a_nbt
                rw [if_pos ef]
                omega
            · have tk' := tk (Or.inr ⟨j, jb, e⟩)
              refine ⟨fun ef => ⟨fun _ => tk', fun lt => absurd ?_ lt⟩, fun ef => ⟨fun _ => tk', fun lt => absurd ?_ lt⟩⟩
              · rw [w2, lI_lt hy fj]
                unfold a_nbt at e
                rw [if_neg (by rw [ef]; decide)] at e
                omega
              · rw [w2, lI_lt fj hy]
                unfold a_nbt at e
                rw [if_pos ef] at e
                omega
        simp (disch := omega) only [e_X11_plays_54, ia8, ia16, ia24, ia32, ia40, ia48, ia58, ia68, ia78, ia88, ia98, ncl, vpt, c0, c1, c2, c3, c4, c5, c6, c7, k0, k1, k2, k3, k4, k5, k6, k7, M_0 M1, ok_m1 ok, n1, eq_self, reduceCtorEq, true_implies, false_implies, and_true, true_and, not_true_eq_false, not_false_eq_true]
        by_cases c0 : i = a_D m
        · subst c0
          simp only [eq_self, reduceCtorEq, true_implies, false_implies, and_true, true_and, not_true_eq_false, not_false_eq_true]
          unfold p_X11_plays_81
          simp only [eq_self, reduceCtorEq, true_implies, false_implies, and_true, true_and, not_true_eq_false, not_false_eq_true]
          unfold p_X11_plays_127
          simp only [eq_self, reduceCtorEq, true_implies, false_implies, and_true, true_and, not_true_eq_false, not_false_eq_true]
          have st : p_X11_plays_168 (nI p) (nI o) (nI t) (nI T) (nI c) (p_X11_plays (k + 1 + fu)) (p_X11_plays_54 (nI p) (nI o) (nI t) (nI T) (nI c) (p_X11_plays (k + 1 + fu)) K fu2) K s f (nI (a_w p o f)) (nI (a_w o p f)) b w (nI (a_D m)) true (lI 0) := by
            unfold p_X11_plays_168
            simp only [eq_self, reduceCtorEq, true_implies, false_implies, and_true, true_and, not_true_eq_false, not_false_eq_true]
            unfold p_X11_plays_193
            rw [nIs]
            refine ih (t + 1) T c (!f) s _ (by omega) hk hf2 hc M1 (fun S45 f45 _ => ?_)
            simp only [forall_eq, lI_add, Int.zero_add]
            have fl := pl_fit ok p o (show k ≤ 4 by omega) (!f) c
            refine up S45 _ fl (fun q => ?_) (fun j jb w1 w2 q => ?_)
            · refine hk2 (S45, lI (a_pl m p o k (!f) c), nI (a_D m)) ⟨fr_t fs f45, fun e => absurd e (by omega), fun _ => ?_⟩
              rcases q with ⟨-, q⟩ | ⟨j, jb, q⟩
              · have e : a_pl m p o (k + 1) f c = a_pl m p o k (!f) c := by rw [pl_s]; exact fd_no q
                exact ⟨by rw [e], (wi_none (fun l hl hc' => by rw [q l hl] at hc'; exact Bool.noConfusion hc')).symm⟩
              · obtain ⟨e, q2⟩ := jb_v0 jb q
                have e : a_pl m p o (k + 1) f c = a_pl m p o k (!f) c := by rw [pl_s]; exact e
                exact ⟨by rw [e], (wi_none (fun l hl hc' => by rw [e]; exact q2 l hl hc')).symm⟩
            · have e : a_pl m p o (k + 1) f c = a_pv m p o k f c j := by rw [pl_s]; exact jb_vj jb q
              exact hk2 (S45, b, w) ⟨fr_t fs f45, fun e => absurd e (by omega), fun _ => ⟨by rw [e]; exact w2, by rw [wi_some jb e]; exact w1⟩⟩
          unfold p_X11_plays_153
          exact ⟨fun _ => st, fun _ => st⟩
        · have c0' : ¬ nI i = nI (a_D m) := fun q => c0 ((nI_eq (by omega) (by omega)).mp q)
          have hi' : i < a_D m := by omega
          simp only [c0', eq_self, reduceCtorEq, true_implies, false_implies, and_true, true_and, not_true_eq_false, not_false_eq_true]
          have skip : a_cd m p o f c i = false → ∀ s', a_fr a_sm s s' → p_X11_plays_239 (nI p) (nI o) (nI t) (nI T) (nI c) (p_X11_plays (k + 1 + fu)) (p_X11_plays_54 (nI p) (nI o) (nI t) (nI T) (nI c) (p_X11_plays (k + 1 + fu)) K fu2) K s' f (nI (a_w p o f)) (nI (a_w o p f)) b w (nI i) := by
            intro e s' f'
            unfold p_X11_plays_239
            simp only [forall_eq, nIs]
            refine hk2 (s', b, w) ⟨fr_t fs f', fun _ => ?_, fun q => absurd q (by omega)⟩
            rcases hJ with ⟨w1, w2⟩ | ⟨j, jb, w1, w2⟩
            · refine Or.inl ⟨w1, fun j hj => ?_⟩
              by_cases q : j = i
              · rw [q]; exact e
              · exact w2 j (by omega)
            · exact Or.inr ⟨j, jb_keep jb (fun q => by rw [e] at q; exact Bool.noConfusion q), w1, w2⟩
          unfold p_X11_plays_81
          simp (disch := omega) only [eq_self, reduceCtorEq, true_implies, false_implies, and_true, true_and, not_true_eq_false, not_false_eq_true, ia8, ia16, ia24, ia32, ia40, ia48, ia58, ia68, ia78, ia88, ia98, ncl, vpt, c0, c1, c2, c3, c4, c5, c6, c7, k0, k1, k2, k3, k4, k5, k6, k7, M_0 M1, e_has, bit_at c hc i (show i < 10 by omega), m_canCharge ok M1 hw hi']
          have ecd := cd_w (m := m) (c := c) (d := i) (f := f) npo
          by_cases c1 : m (48 + i) = nI (a_w o p f)
          · simp only [c1, eq_self, reduceCtorEq, true_implies, false_implies, and_true, true_and, not_true_eq_false, not_false_eq_true]
            cases b1 : c.testBit i
            · simp only [eq_self, reduceCtorEq, true_implies, false_implies, and_true, true_and, not_true_eq_false, not_false_eq_true]
              cases b2 : a_can m (a_w p o f) i
              · simp only [eq_self, reduceCtorEq, true_implies, false_implies, and_true, true_and, not_true_eq_false, not_false_eq_true]
                exact skip (by rw [ecd, b2, Bool.and_false]) s fr_r
              · simp only [eq_self, reduceCtorEq, true_implies, false_implies, and_true, true_and, not_true_eq_false, not_false_eq_true]
                have et : a_cd m p o f c i = true := by rw [ecd, b1, b2, decide_eq_true c1]; rfl
                have ew := wo_w et
                have fp := pv_fit ok p o (show k ≤ 3 by omega) f c hi'
                have st : ∀ s', a_fr a_sm s s' → p_X11_plays_168 (nI p) (nI o) (nI t) (nI T) (nI c) (p_X11_plays (k + 1 + fu)) (p_X11_plays_54 (nI p) (nI o) (nI t) (nI T) (nI c) (p_X11_plays (k + 1 + fu)) K fu2) K s' f (nI (a_w p o f)) (nI (a_w o p f)) b w (nI i) false (lI (a_wo m p o i)) := by
                  intro s' f'
                  unfold p_X11_plays_168
                  simp only [eq_self, reduceCtorEq, true_implies, false_implies, and_true, true_and, not_true_eq_false, not_false_eq_true]
                  unfold p_X11_plays_193
                  rw [nIs, bit_1 i (by omega), bit_or c hc i (by omega)]
                  refine ih (t + 1) T (c ||| 2 ^ i) (!f) s' _ (by omega) hk hf2 (or_10 hc (by omega)) (M_m M1 f') (fun S45 f45 _ => ?_)
                  have ep : lI (a_wo m p o i) + lI (a_pl m p o k (!f) (c ||| 2 ^ i)) = lI (a_pv m p o k f c i) := lI_add _ _
                  simp only [forall_eq, ep]
                  refine up S45 _ fp (fun q => ?_) (fun j jb w1 w2 q => ?_)
                  · refine hk2 (S45, lI (a_pv m p o k f c i), nI i) ⟨fr_t fs (fr_t f' f45), fun _ => Or.inr ⟨i, ?_, rfl, rfl⟩, fun q => absurd q (by omega)⟩
                    rcases q with ⟨-, q⟩ | ⟨j, jb, q⟩
                    · exact jb_one q et
                    · exact jb_take jb et q
                  · exact hk2 (S45, b, w) ⟨fr_t fs (fr_t f' f45), fun _ => Or.inr ⟨j, jb_keep jb (fun _ => q), w1, w2⟩, fun q => absurd q (by omega)⟩
                unfold p_X11_plays_127
                simp only [eq_self, reduceCtorEq, true_implies, false_implies, and_true, true_and, not_true_eq_false, not_false_eq_true]
                refine m_gainOf ok M1 hw hi' (fun S2 f2 => ?_)
                have f2' := fr_w f2 (ro_sm (by omega))
                refine m_lossOf ok (M_m M1 f2') hw hi' (fun S3 f3 => ?_)
                have f3' := fr_t f2' (fr_w f3 (ro_sm (by omega)))
                have st := st S3 f3'
                unfold p_X11_plays_153
                rw [lI_add, lI_neg]
                refine ⟨fun ef => ?_, fun ef => ?_⟩
                · rw [ew, if_neg (by rw [ef]; decide)] at st
                  exact st
                · rw [ew, if_pos ef] at st
                  exact st
            · simp only [eq_self, reduceCtorEq, true_implies, false_implies, and_true, true_and, not_true_eq_false, not_false_eq_true]
              exact skip (by rw [ecd, b1]; simp) s fr_r
          · simp only [c1, eq_self, reduceCtorEq, true_implies, false_implies, and_true, true_and, not_true_eq_false, not_false_eq_true]
            exact skip (by rw [ecd, decide_eq_false c1]; rfl) s fr_r
      · obtain ⟨s, b, w⟩ := z
        obtain ⟨fs, -, hJ⟩ := hI
        obtain ⟨e1, e2⟩ := hJ rfl
        simp only at fs e1 e2
        subst e1 e2
        have M1 := M_m M fs
        have n1 : nI (a_D m) < nI (a_D m + 1) := nI_lt (by omega) (by omega)
        simp (disch := omega) only [e_X11_plays_54, ia8, ia16, ia24, ia32, ia40, ia48, ia58, ia68, ia78, ia88, ia98, ncl, vpt, c0, c1, c2, c3, c4, c5, c6, c7, k0, k1, k2, k3, k4, k5, k6, k7, M_0 M1, ok_m1 ok, n1, eq_self, reduceCtorEq, true_implies, false_implies, and_true, true_and, not_true_eq_false, not_false_eq_true]
        by_cases t0 : t = 0
        · have q : nI t = 0 := by rw [t0]; rfl
          simp only [q, eq_self, reduceCtorEq, true_implies, false_implies, and_true, true_and, not_true_eq_false, not_false_eq_true, forall_eq]
          refine h _ (fr_i fs rfl) (fun _ k' e => ?_)
          rw [si_at, show k' = k by omega]
        · have q : ¬ nI t = 0 := nI_ne0 (by omega) (by omega)
          simp only [q, eq_self, reduceCtorEq, true_implies, false_implies, and_true, true_and, not_true_eq_false, not_false_eq_true]
          exact h s fs (fun e => absurd e t0)
    have e2 : nI t - nI t / 2 * 2 = nI (t % 2) := pk_rem (d := 2) (by omega) (by omega) (by omega)
    have n1 : ¬ nI t = nI T := fun w => by
      have := (nI_eq (by omega) (by omega)).mp w
      omega
    unfold pb_X11_plays
    simp only [n1, e2, eq_self, reduceCtorEq, true_implies, false_implies, and_true, true_and, not_true_eq_false, not_false_eq_true]
    by_cases q : t % 2 = 0
    · have e3 : nI (t % 2) = 0 := by rw [q]; rfl
      rw [decide_eq_true q] at hf
      subst hf
      simp only [e3, eq_self, reduceCtorEq, true_implies, false_implies, and_true, true_and, not_true_eq_false, not_false_eq_true]
      unfold p_X11_plays_19
      simp only [eq_self, reduceCtorEq, true_implies, false_implies, and_true, true_and, not_true_eq_false, not_false_eq_true]
      unfold p_X11_plays_31
      simp only [eq_self, reduceCtorEq, true_implies, false_implies, and_true, true_and, not_true_eq_false, not_false_eq_true]
      exact key
    · have e3 : ¬ nI (t % 2) = 0 := nI_ne0 (by omega) (by omega)
      rw [decide_eq_false q] at hf
      subst hf
      simp only [e3, eq_self, reduceCtorEq, true_implies, false_implies, and_true, true_and, not_true_eq_false, not_false_eq_true]
      unfold p_X11_plays_19
      simp only [eq_self, reduceCtorEq, true_implies, false_implies, and_true, true_and, not_true_eq_false, not_false_eq_true]
      unfold p_X11_plays_31
      simp only [eq_self, reduceCtorEq, true_implies, false_implies, and_true, true_and, not_true_eq_false, not_false_eq_true]
      exact key
/-! game, moveOf -/
def a_gst (m : Nat → Int32) (x y T lo : Int32) : Int32 := if (a_one m x && a_one m y) = true then (if x = y then 5 else if a_in lo 3 T = true then 0 else 5) else 2
theorem x_gameStatus {S : vSt} {m : Nat → Int32} {x y T lo : Int32} {K : Int32 → vSt → Prop} (R : a_R S 10 m) : p_X10_gameStatus S x y T lo K = K (a_gst m x y T lo) S := by
  unfold p_X10_gameStatus a_gst
  rw [e_hasPerson R]
  simp only [e_hasPerson R, gd2]
  cases a_one m x <;> cases a_one m y <;> simp only [Bool.and_true, Bool.and_false, Bool.true_and, Bool.false_and, Bool.false_eq_true, if_true, if_false, eq_self, reduceCtorEq, true_implies, false_implies, and_true, true_and, not_true_eq_false, not_false_eq_true]
  by_cases c : x = y
  · simp only [c, eq_self, reduceCtorEq, true_implies, false_implies, and_true, true_and, not_true_eq_false, not_false_eq_true, if_true]
  · simp only [c, eq_self, reduceCtorEq, true_implies, false_implies, and_true, true_and, not_true_eq_false, not_false_eq_true, if_false]
    split <;> rfl
theorem m_whyNoGame {S : vSt} {m : Nat → Int32} {x y T lo : Int32} {K : Int32 → vSt → Prop} (ok : a_ok m) (M : a_M S 0 m) : p_X11_whyNoGame S x y T lo K = K (a_gst m x y T lo) S := by
  unfold p_X11_whyNoGame a_gst
  rw [e_isOne ok M]
  simp only [e_isOne ok M, e_min (lo := lo) (hi := 3) (H := 3) rfl rfl]
  cases a_one m x <;> cases a_one m y <;> simp only [Bool.and_true, Bool.and_false, Bool.true_and, Bool.false_and, Bool.false_eq_true, if_true, if_false, eq_self, reduceCtorEq, true_implies, false_implies, and_true, true_and, not_true_eq_false, not_false_eq_true]
  by_cases c : x = y
  · simp only [c, eq_self, reduceCtorEq, true_implies, false_implies, and_true, true_and, not_true_eq_false, not_false_eq_true, if_true]
  · simp only [c, eq_self, reduceCtorEq, true_implies, false_implies, and_true, true_and, not_true_eq_false, not_false_eq_true, if_false]
    cases a_in lo 3 T <;> simp only [Bool.false_eq_true, if_true, if_false, eq_self, reduceCtorEq, true_implies, false_implies, and_true, true_and, not_true_eq_false, not_false_eq_true]
theorem gst_0 {m : Nat → Int32} {x y T : Int32} {l : Nat} (hl : l ≤ 1) (ok : a_ok m) (h : a_gst m x y T (nI l) = 0) : ∃ p o k, p < a_P m ∧ o < a_P m ∧ p ≠ o ∧ l ≤ k ∧ k ≤ 3 ∧ x = nI p ∧ y = nI o ∧ T = nI k ∧ a_n x = p ∧ a_n y = o ∧ a_n T = k := by
  unfold a_gst at h
  by_cases g : (a_one m x && a_one m y) = true
  · rw [if_pos g] at h
    rw [Bool.and_eq_true] at g
    obtain ⟨p, hp, e1, e2⟩ := a_one_t ok g.1
    obtain ⟨o, ho, e3, e4⟩ := a_one_t ok g.2
    by_cases c : x = y
    · rw [if_pos c] at h; exact absurd h (by decide)
    · rw [if_neg c] at h
      by_cases d : a_in (nI l) 3 T = true
      · unfold a_in at d
        have d := of_decide_eq_true d
        have t0 : ¬ T < 0 := by
          intro w
          have q := d.1
          rw [Int32.lt_iff_toInt_lt] at w
          rw [Int32.le_iff_toInt_le, nI_toInt (by omega)] at q
          have : (0 : Int32).toInt = 0 := rfl
          omega
        obtain ⟨k, hk, rfl⟩ := nI_of t0
        have d1 := (nI_leI (a := l) (b := k) (by omega) hk).mp d.1
        have d2 := (nI_leI (a := k) (b := 3) hk (by omega)).mp d.2
        exact ⟨p, o, k, hp, ho, fun w => c (by rw [e1, e3, w]), d1, d2, e1, e3, rfl, e2, e4, a_n_nI hk⟩
      · rw [if_neg d] at h; exact absurd h (by decide)
  · rw [if_neg g] at h; exact absurd h (by decide)
theorem gst_n {m : Nat → Int32} {x y T lo : Int32} (h : a_gst m x y T lo ≠ 0) : (false, a_gst m x y T lo, (none : Option (Int64 × Int64))) = (decide (a_gst m x y T lo = 0), a_gst m x y T lo, none) := by
  rw [decide_eq_false h]
theorem gst_p {m : Nat → Int32} {x y T lo : Int32} (h : a_gst m x y T lo ≠ 0) : ¬ a_gst m x y T lo ≤ 0 := by
  unfold a_gst at h ⊢
  split at h
  · next q =>
    rw [if_pos q]
    split at h
    · next q => rw [if_pos q]; decide
    · next q =>
      rw [if_neg q]
      split at h
      · exact absurd rfl h
      · next q => rw [if_neg q]; decide
  · next q => rw [if_neg q]; decide
def o_game (m : Nat → Int32) (x y T : Int32) : Bool × Int32 × Option (Int64 × Int64) := if a_gst m x y T 0 = 0 then (true, 0, a_frac (a_pl m (a_n x) (a_n y) (a_n T) true 0) (a_all m)) else (false, a_gst m x y T 0, none)
theorem x_game {S : vSt} {m : Nat → Int32} {x y T : Int32} {K : Bool → vSt → Prop} (ok : a_ok m) (R : a_R S 10 m) (h : a_XK S K (o_game m x y T)) : p_X10_game S x y T K := by
  unfold p_X10_game
  rw [x_gameStatus R]
  unfold o_game at h
  by_cases g : a_gst m x y T 0 = 0
  · obtain ⟨p, o, k, hp, ho, n, -, hk, rfl, rfl, rfl, e1, e2, e3⟩ := gst_0 (l := 0) (by omega) ok g
    rw [if_pos g, e1, e2, e3] at h
    simp only [g, eq_self, reduceCtorEq, true_implies, false_implies, and_true, true_and, not_true_eq_false, not_false_eq_true]
    refine x_see ok R (fun S1 f1 s1 => ?_)
    refine x_setGame ok (R_x R f1) s1 hp ho n (fun S2 f2 g2 t2 => ?_)
    have f2' := fr_t f1 (fr_w f2 gr_sx)
    have R2 := R_x R f2'
    refine x_outcome ok R2 g2 hk t2 ?_
    rw [x_whole ok R2]
    exact x_tell f2' (pl_fit ok p o (by omega) true 0) (all_pos m) (all_40 ok) h
  · rw [if_neg g, gst_n g] at h
    simp only [g, eq_self, reduceCtorEq, true_implies, false_implies, and_true, true_and, not_true_eq_false, not_false_eq_true]
    exact x_settled fr_r h
theorem m_game {S : vSt} {m : Nat → Int32} {x y T : Int32} {K : Bool → vSt → Prop} (ok : a_ok m) (M : a_M S 0 m) (h : a_MK S K (o_game m x y T)) : p_X11_game S x y T K := by
  unfold p_X11_game
  rintro _ rfl
  rw [m_whyNoGame ok (M_thr M)]
  rintro _ rfl
  have g1 := g_why (S := S) (w := a_gst m x y T 0)
  have M1 := M_g M g1
  rw [si_at]
  unfold o_game at h
  by_cases g : a_gst m x y T 0 = 0
  · obtain ⟨p, o, k, hp, ho, n, -, hk, rfl, rfl, rfl, e1, e2, e3⟩ := gst_0 (l := 0) (by omega) ok g
    rw [if_pos g, e1, e2, e3] at h
    rw [g] at g1 M1 ⊢
    simp only [eq_self, reduceCtorEq, true_implies, false_implies, and_true, true_and, not_true_eq_false, not_false_eq_true]
    have pl := m_plays ok hp ho n k (5 - k) 0 k 0 true
    rw [show k + 1 + (5 - k) = 6 by omega] at pl
    refine pl _ _ (by omega) hk rfl (by omega) M1 (fun S2 f2 _ => ?_)
    refine m_allVotes ok (M_m M1 f2) ?_
    exact m_fraction (g_fr g1 f2) (pl_fit ok p o (by omega) true 0) (all_pos m) (all_40 ok) (m_wrap h)
  · rw [if_neg g] at h
    simp only [g, eq_self, reduceCtorEq, true_implies, false_implies, and_true, true_and, not_true_eq_false, not_false_eq_true]
    exact m_ret g1 h
def o_move (m : Nat → Int32) (x y T : Int32) : Int32 × Int32 × Option (Int64 × Int64) := if a_gst m x y T 1 = 0 then o_any (a_first m (a_n x) (a_n y) (a_n T - 1)) else (-1, a_gst m x y T 1, none)
theorem x_moveOf {S : vSt} {m : Nat → Int32} {x y T : Int32} {K : Int32 → vSt → Prop} (ok : a_ok m) (R : a_R S 10 m) (h : a_XK S K (o_move m x y T)) : p_X10_moveOf S x y T K := by
  unfold p_X10_moveOf
  rw [x_gameStatus R]
  unfold o_move at h
  by_cases g : a_gst m x y T 1 = 0
  · obtain ⟨p, o, k, hp, ho, n, hl, hk, rfl, rfl, rfl, e1, e2, e3⟩ := gst_0 (l := 1) (by omega) ok g
    rw [if_pos g, e1, e2, e3] at h
    simp only [g, eq_self, reduceCtorEq, true_implies, false_implies, and_true, true_and, not_true_eq_false, not_false_eq_true]
    refine x_see ok R (fun S1 f1 s1 => ?_)
    refine x_setGame ok (R_x R f1) s1 hp ho n (fun S2 f2 g2 t2 => ?_)
    have f2' := fr_t f1 (fr_w f2 gr_sx)
    have R2 := R_x R f2'
    refine x_firstMove ok R2 g2 (k := k - 1) (by omega) (by rw [t2]; congr 1; omega) ?_
    exact x_toldIfAny f2' h
  · rw [if_neg g] at h
    simp only [g, eq_self, reduceCtorEq, true_implies, false_implies, and_true, true_and, not_true_eq_false, not_false_eq_true]
    exact x_refused fr_r h
theorem m_moveOf {S : vSt} {m : Nat → Int32} {x y T : Int32} {K : Int32 → vSt → Prop} (ok : a_ok m) (M : a_M S 0 m) (h : a_MK S K (o_move m x y T)) : p_X11_moveOf S x y T K := by
  unfold p_X11_moveOf
  rintro _ rfl
  rw [m_whyNoGame ok (M_thr M)]
  rintro _ rfl
  have g1 := g_why (S := S) (w := a_gst m x y T 1)
  have M1 := M_g M g1
  have h10 := ok_D10 ok
  rw [si_at]
  unfold o_move at h
  by_cases g : a_gst m x y T 1 = 0
  · obtain ⟨p, o, k, hp, ho, n, hl, hk, rfl, rfl, rfl, e1, e2, e3⟩ := gst_0 (l := 1) (by omega) ok g
    rw [if_pos g, e1, e2, e3] at h
    have z0 : (0 : Int32) ≤ 0 := Int32.le_refl _
    rw [g] at g1 M1 ⊢
    simp only [z0, eq_self, reduceCtorEq, true_implies, false_implies, and_true, true_and, not_true_eq_false, not_false_eq_true]
    have pl := m_plays ok hp ho n k (5 - k) 0 k 0 true
    rw [show k + 1 + (5 - k) = 6 by omega] at pl
    refine pl _ _ (by omega) hk rfl (by omega) M1 (fun S2 f2 w2 => ?_)
    have w2 := w2 rfl (k - 1) (by omega)
    have g2 := g_fr g1 f2
    have M2 := M_m M1 f2
    simp (disch := omega) only [ia8, ia16, ia24, ia32, ia40, ia48, ia58, ia68, ia78, ia88, ia98, ncl, vpt, c0, c1, c2, c3, c4, c5, c6, c7, k0, k1, k2, k3, k4, k5, k6, k7, M_0 M2, ok_m1 ok, w2]
    unfold a_first a_fg at h
    unfold a_wi
    unfold a_fc at h
    cases q : v_first (fun d => a_cd m p o true 0 d && decide (a_pv m p o (k - 1) true 0 d = a_pl m p o (k - 1 + 1) true 0)) (a_D m) with
    | none =>
      rw [q] at h
      simp only [eq_self, reduceCtorEq, true_implies, false_implies, and_true, true_and, not_true_eq_false, not_false_eq_true]
      refine m_refuse g2 ?_
      exact h
    | some j =>
      rw [q] at h
      have hj := first_lt _ _ q
      have nj : ¬ nI j = nI (a_D m) := fun w => by
        have := (nI_eq (by omega) (by omega)).mp w
        omega
      have nm : ¬ nI j = -1 := fun w => by
        have q : ¬ nI j < 0 := nI_pos (by omega)
        rw [w] at q
        exact q (by decide)
      simp only [nj, eq_self, reduceCtorEq, true_implies, false_implies, and_true, true_and, not_true_eq_false, not_false_eq_true]
      unfold o_any at h
      rw [if_neg nm] at h
      exact m_ret g2 h
  · rw [if_neg g] at h
    simp only [gst_p g, eq_self, reduceCtorEq, true_implies, false_implies, and_true, true_and, not_true_eq_false, not_false_eq_true]
    exact m_ret g1 h
