/-! mean -/
def a_nsm (v : Nat → Nat) : Nat → Nat
  | 0 => 0
  | n + 1 => a_nsm v n + v n
theorem nsm_lt {v : Nat → Nat} {c : Nat} (hv : ∀ q, q < c → v q ≤ 99999) : ∀ n, n ≤ c → a_nsm v n ≤ n * 99999
  | 0, _ => Nat.zero_le _
  | n + 1, h => by
    have := nsm_lt hv n (by omega)
    have := hv n (by omega)
    show a_nsm v n + v n ≤ (n + 1) * 99999
    omega
/-- the range of mean's numbers -/
def a_mnr (x z : Int32) : Bool := a_in 1 20 z && a_in 0 (10000 - z) x
theorem mnr_t {x z : Int32} (h : a_mnr x z = true) : ∃ s c, x = nI s ∧ z = nI c ∧ 1 ≤ c ∧ c ≤ 20 ∧ s + c ≤ 10000 := by
  have h := (Bool.and_eq_true _ _).mp h
  obtain ⟨c, hc, rfl, -⟩ := a_in_t (x := z) (n := 20) rfl (by omega) (by
    have := of_decide_eq_true h.1
    exact decide_eq_true ⟨Int32.le_trans (by decide) this.1, this.2⟩)
  have h1 := of_decide_eq_true h.1
  have c1 : 1 ≤ c := (nI_leI (a := 1) (by omega) (by omega)).mp h1.1
  have e : (10000 : Int32) - nI c = nI (10000 - c) := by rw [show (10000 : Int32) = nI 10000 from rfl, pk_sub (by omega)]
  have h2 := h.2
  rw [e] at h2
  obtain ⟨s, hs, rfl, -⟩ := a_in_t (x := x) (n := 10000 - c) rfl (by omega) h2
  exact ⟨s, c, rfl, rfl, c1, hc, by omega⟩
theorem mnr_x {A B : Prop} {x z : Int32} : ((x < 0 → A) ∧ (¬ x < 0 → ((9999 < x → A) ∧ (¬ 9999 < x → ((z < 1 → A) ∧ (¬ z < 1 → ((20 < z → A) ∧ (¬ 20 < z → (((x + z) - 1 ≤ 9999 → B) ∧ (¬ (x + z) - 1 ≤ 9999 → A)))))))))) = (if a_mnr x z = true then B else A) := by
  by_cases g1 : a_in 0 9999 x = true
  · obtain ⟨s, hs, rfl, -⟩ := a_in_t (n := 9999) rfl (by omega) g1
    have n1 : ¬ nI s < 0 := nI_pos (by omega)
    have n2 : ¬ 9999 < nI s := nI_nlt (a := 9999) (by omega) (by omega)
    by_cases g2 : a_in 1 20 z = true
    · have q := of_decide_eq_true g2
      obtain ⟨c, hc, rfl, -⟩ := a_in_t (x := z) (n := 20) rfl (by omega) (decide_eq_true ⟨Int32.le_trans (by decide) q.1, q.2⟩)
      have n3 : ¬ nI c < 1 := Int32.not_lt.mpr q.1
      have n4 : ¬ 20 < nI c := Int32.not_lt.mpr q.2
      have c1 : 1 ≤ c := (nI_leI (a := 1) (by omega) (by omega)).mp q.1
      have e1 : nI s + nI c - 1 = nI (s + c - 1) := by rw [nI_add, show (1 : Int32) = nI 1 from rfl, pk_sub (by omega)]
      have e : (10000 : Int32) - nI c = nI (10000 - c) := by rw [show (10000 : Int32) = nI 10000 from rfl, pk_sub (by omega)]
      have e2 : nI (s + c - 1) ≤ 9999 ↔ s + c ≤ 10000 := (nI_leI (b := 9999) (by omega) (by omega)).trans (by omega)
      have e3 : a_mnr (nI s) (nI c) = decide (s + c ≤ 10000) := by
        unfold a_mnr
        rw [g2, Bool.true_and, e]
        unfold a_in
        rw [decide_eq_decide, nI_leI (by omega) (by omega)]
        have : (0 : Int32) ≤ nI s := nI_le (a := 0) (by omega) (by omega)
        constructor
        · intro w; omega
        · intro w; exact ⟨this, by omega⟩
      rw [e1, e2, e3]
      by_cases d : s + c ≤ 10000
      · rw [decide_eq_true d, if_pos rfl]
        simp only [n1, n2, n3, n4, d, eq_self, reduceCtorEq, true_implies, false_implies, and_true, true_and, not_true_eq_false, not_false_eq_true]
      · rw [decide_eq_false d, if_neg (by decide)]
        simp only [n1, n2, n3, n4, d, eq_self, reduceCtorEq, true_implies, false_implies, and_true, true_and, not_true_eq_false, not_false_eq_true]
    · have e3 : a_mnr (nI s) z = false := by
        unfold a_mnr
        rw [Bool.not_eq_true] at g2
        rw [g2, Bool.false_and]
      rw [e3, if_neg (by decide)]
      simp only [n1, n2, eq_self, reduceCtorEq, true_implies, false_implies, and_true, true_and, not_true_eq_false, not_false_eq_true]
      rw [Bool.not_eq_true] at g2
      have q := of_decide_eq_false g2
      refine propext ⟨fun w => ?_, fun a => ⟨fun _ => a, fun w3 => ⟨fun _ => a, fun w4 => absurd ⟨Int32.not_lt.mp w3, Int32.not_lt.mp w4⟩ q⟩⟩⟩
      by_cases w3 : z < 1
      · exact w.1 w3
      · by_cases w4 : 20 < z
        · exact (w.2 w3).1 w4
        · exact absurd ⟨Int32.not_lt.mp w3, Int32.not_lt.mp w4⟩ q
  · have e3 : a_mnr x z = false := by
      cases w : a_mnr x z
      · rfl
      · obtain ⟨s, c, rfl, rfl, h1, h2, h3⟩ := mnr_t w
        exact absurd (decide_eq_true ⟨nI_le (a := 0) (by omega) (by omega), nI_le (b := 9999) (by omega) (by omega)⟩) g1
    rw [e3, if_neg (by decide)]
    rw [Bool.not_eq_true] at g1
    have q := of_decide_eq_false g1
    refine propext ⟨fun w => ?_, fun a => ⟨fun _ => a, fun w1 => ⟨fun _ => a, fun w2 => absurd ⟨Int32.not_lt.mp w1, Int32.not_lt.mp w2⟩ q⟩⟩⟩
    by_cases w1 : x < 0
    · exact w.1 w1
    · by_cases w2 : 9999 < x
      · exact (w.2 w1).1 w2
      · exact absurd ⟨Int32.not_lt.mp w1, Int32.not_lt.mp w2⟩ q
def o_mean (there : Bool) (x z : Int32) (v : Nat → Nat) : Bool × Int32 × Option (Int64 × Int64) := if a_mnr x z = true then (if there = true then (true, 0, a_frac (a_nsm v (a_n z) : Nat) (a_n z)) else (false, 8, none)) else (false, 5, none)
theorem x_mean {S : vSt} {m : Nat → Int32} {W : aW} {N : Nat} {x z : Int32} {v : Nat → Nat} {there : Bool} {Q : Bool → vSt → Prop} (R : a_R S 10 m) (ok : a_ok m) (ht : there = decide (¬ S.1 25 8 = 0)) (hb : v_isb (S.1 25 8)) (y : there = true → a_yX 10 N W S) (ex : there = true → ∀ s c, x = nI s → z = nI c → s + c ≤ 10000 → ∀ q, q < c → v q ≤ 99999 ∧ ∀ S (Q : vSt → Prop), a_R S 32 m → a_yX 32 N W S → (∀ S', a_fr (a_uf 32) S S' → S'.1 32 17 = nI (v q) → Q S') → p_X4_run 32 S (nI (s + q)) Q) (h : a_XK S Q (o_mean there x z v)) : p_X10_mean S x z Q := by
  unfold p_X10_mean p_X10_mean_33
  rw [mnr_x]
  unfold o_mean at h
  cases g : a_mnr x z
  · rw [g, if_neg (by decide)] at h
    rw [if_neg (by decide), e_settled, show decide ((5 : Int32) = 0) = false from by decide]
    exact x_end fr_r h
  · obtain ⟨s, c, rfl, rfl, c1, c2, hsc⟩ := mnr_t g
    rw [g, if_pos rfl, a_n_nI (by omega)] at h
    rw [if_pos rfl]
    by_cases c0 : S.1 25 8 = 0
    · have e : there = false := by rw [ht]; exact decide_eq_false (fun w => w c0)
      rw [e, if_neg (by decide)] at h
      simp only [c0, eq_self, reduceCtorEq, true_implies, false_implies, and_true, true_and, not_true_eq_false, not_false_eq_true]
      rw [e_settled, show decide ((8 : Int32) = 0) = false from by decide]
      exact x_end fr_r h
    · have e : there = true := by rw [ht]; exact decide_eq_true c0
      rw [e, if_pos rfl] at h
      have ex := ex e s c rfl rfl hsc
      have y := y e
      simp only [c0, eq_self, reduceCtorEq, true_implies, false_implies, and_true, true_and, not_true_eq_false, not_false_eq_true]
      refine v_loop (fun fu i (t : vSt × Int64) => p_X10_mean_64 (nI s) (nI c) Q fu t.1 t.2 (nI i)) (fun i t => a_fr a_sx S t.1 ∧ t.2 = lI ((a_nsm v i : Nat) : Int)) c (fun fu i t hi I hk => ?_) (fun fu t I => ?_) (S, 0) ⟨fr_r, rfl⟩
      · obtain ⟨S1, x3⟩ := t
        obtain ⟨f1, e3⟩ := I
        simp only at f1 e3
        subst e3
        have n1 : ¬ nI c ≤ nI i := nI_ge hi (by omega)
        obtain ⟨hv, ex⟩ := ex i hi
        rw [e_X10_mean_64, nI_add]
        simp only [n1, eq_self, reduceCtorEq, true_implies, false_implies, and_true, true_and, not_true_eq_false, not_false_eq_true]
        have g1 : ∀ k j, 10 ≤ k → k ≤ 30 → S1.1 k j = S.1 k j := fun k j h1 h2 => (f1 k j (decide_eq_false (by omega))).1
        have hb1 : v_isb (S1.1 25 8) := by rw [g1 25 8 (by omega) (by omega)]; exact hb
        refine x_copyFrom (b := 32) (b1 := 10) (Or.inr (by omega)) hb1 (fun S2 f2 D2 Y2 z2 => ?_)
        have R1 := R_x R f1
        have R2 := R_copy R1 D2 z2
        obtain ⟨Y1, Y6, -, -⟩ := Y2
        refine ex S2 _ R2 ⟨Y6.trans ((g1 25 6 (by omega) (by omega)).trans y.1), fun q j hq hj => ?_⟩ (fun S3 f3 e17 => ?_)
        · have hz : a_csz (16 + q) = 60 := (by decide : ∀ q, q < 5 → a_csz (16 + q) = 60) q hq
          have w := Y1 (16 + q) (by omega) (by omega) j (by rw [hz]; exact hj)
          rw [if_neg (by omega), show 32 + (16 + q) = 32 + 16 + q by omega, show 10 + (16 + q) = 26 + q by omega] at w
          rw [w, g1 _ _ (by omega) (by omega)]
          exact y.2 q j hq hj
        · rintro _ rfl _ rfl
          rw [e17, nI_lI (by omega), nIs]
          have f4 : a_fr a_sx S S3 := fr_t f1 (fr_t (fr_w f2 (fun k j w => by
            have w := of_decide_eq_false w
            exact decide_eq_false (by omega))) (fr_w f3 (fun k j w => by
            have w := of_decide_eq_false w
            refine Bool.or_eq_false_iff.mpr ⟨decide_eq_false (by omega), decide_eq_false (by omega)⟩)))
          refine hk (S3, _) ⟨f4, ?_⟩
          show lI _ + lI _ = lI _
          rw [lI_add]
          rfl
      · obtain ⟨S1, x3⟩ := t
        obtain ⟨f1, e3⟩ := I
        simp only at f1 e3
        subst e3
        have b := nsm_lt (v := v) (c := c) (fun q hq => (ex q hq).1) c (Nat.le_refl _)
        rw [e_X10_mean_64]
        simp only [Int32.le_refl, eq_self, reduceCtorEq, true_implies, false_implies, and_true, true_and, not_true_eq_false, not_false_eq_true]
        rw [nI_l (by omega)]
        exact x_tell f1 (by unfold a_fit; omega) (by omega) (by omega) h
def a_smc (k j : Nat) : Bool := a_sm k j || decide (k = 148 ∧ j < 108)
theorem um_smc : ∀ k j, a_smc k j = false → a_um k j = false := fun k j w => by
  have w1 := of_decide_eq_false (Bool.or_eq_false_iff.mp w).1
  have w2 := of_decide_eq_false (Bool.or_eq_false_iff.mp w).2
  exact decide_eq_false (by omega)
def a_smd (k j : Nat) : Bool := a_smm k j || decide (k = 148 ∧ j < 108)
def a_MKc {α : Type} (S : vSt) (m : Nat → Int32) (Q : α → vSt → Prop) (o : α × Int32 × Option (Int64 × Int64)) : Prop := ∀ S', a_fr a_smd S S' → a_M S' 0 m → S'.1 143 0 = o.2.1 → S'.2 143 2 = a_ft o.2.2 (S.2 143 2) → S'.2 143 3 = a_fb o.2.2 (S.2 143 3) → Q o.1 S'
theorem MKc_MK {α : Type} {S : vSt} {m : Nat → Int32} {Q : α → vSt → Prop} {o : α × Int32 × Option (Int64 × Int64)} (M : a_M S 0 m) (h : a_MKc S m Q o) : a_MK S Q o := fun S' f e1 e2 e3 => h S' (fr_w f (fun k j w => (Bool.or_eq_false_iff.mp w).1)) (M_fr M f (fun j => by simp [a_smm, a_sm])) e1 e2 e3
theorem smc_smd : ∀ k j, a_smd k j = false → a_smc k j = false := fun k j w => Bool.or_eq_false_iff.mpr ⟨sm_w k j (Bool.or_eq_false_iff.mp w).1, (Bool.or_eq_false_iff.mp w).2⟩
theorem m_mean {S : vSt} {m : Nat → Int32} {x z : Int32} {v : Nat → Nat} {there : Bool} {Q : Bool → vSt → Prop} (M : a_M S 0 m) (ht : there = decide (¬ m 108 = 0)) (ex : there = true → ∀ s c, x = nI s → z = nI c → s + c ≤ 10000 → ∀ q, q < c → v q ≤ 99999 ∧ ∀ S (Q : vSt → Prop), a_M S 0 m → (∀ S', a_fr a_um S S' → S'.1 148 6 = nI (v q) → Q S') → p_X11_runsYears S (nI (s + q)) Q) (h : a_MKc S m Q (o_mean there x z v)) : p_X11_mean S x z Q := by
  unfold p_X11_mean p_X11_mean_37
  refine g_go (fun S1 g1 => ?_)
  rw [e_min (lo := 1) (hi := 20) (L := 1) (H := 20) rfl rfl, e_min (lo := 0) (hi := 10000 - z) (L := 0) rfl rfl]
  unfold o_mean at h
  have em : a_mnr x z = (a_in 1 20 z && a_in 0 (10000 - z) x) := rfl
  cases c1 : a_in 1 20 z
  · rw [c1, Bool.false_and] at em
    rw [em, if_neg (by decide)] at h
    simp only [eq_self, reduceCtorEq, true_implies, false_implies, and_true, true_and, not_true_eq_false, not_false_eq_true]
    exact m_no g1 (MKc_MK M h)
  · simp only [eq_self, reduceCtorEq, true_implies, false_implies, and_true, true_and, not_true_eq_false, not_false_eq_true]
    cases c2 : a_in 0 (10000 - z) x
    · rw [c1, c2, Bool.true_and] at em
      rw [em, if_neg (by decide)] at h
      simp only [eq_self, reduceCtorEq, true_implies, false_implies, and_true, true_and, not_true_eq_false, not_false_eq_true]
      exact m_no g1 (MKc_MK M h)
    · rw [c1, c2, Bool.true_and] at em
      simp only [eq_self, reduceCtorEq, true_implies, false_implies, and_true, true_and, not_true_eq_false, not_false_eq_true]
      have n8 : Int32.toNatClampNeg 108 = 108 := rfl
      have n6 : Int32.toNatClampNeg 6 = 6 := rfl
      have v8 : vp_in 108 1900 := vpin (n := 108) ⟨by omega, by omega⟩
      have v6 : vp_in 6 1900 := vpin (n := 6) ⟨by omega, by omega⟩
      have M1 := M_g M g1
      rw [em, if_pos rfl] at h
      rw [n8, M_0 M1 (by omega)]
      refine ⟨v8, ?_⟩
      obtain ⟨s, c, rfl, rfl, k1, k2, hsc⟩ := mnr_t em
      rw [a_n_nI (by omega)] at h
      by_cases c0 : m 108 = 0
      · have e : there = false := by rw [ht]; exact decide_eq_false (fun w => w c0)
        rw [e, if_neg (by decide)] at h
        simp only [c0, eq_self, reduceCtorEq, true_implies, false_implies, and_true, true_and, not_true_eq_false, not_false_eq_true]
        exact m_no g1 (MKc_MK M h)
      · have e : there = true := by rw [ht]; exact decide_eq_true c0
        rw [e, if_pos rfl] at h
        have ex := ex e s c rfl rfl hsc
        simp only [c0, eq_self, reduceCtorEq, true_implies, false_implies, and_true, true_and, not_true_eq_false, not_false_eq_true]
        -- the cells are kept
        refine v_loop (fun fu i (t : vSt) => p_X11_mean_62 (nI s) (nI c) Q fu t (nI i)) (fun i t => a_fr a_sm S1 t ∧ ∀ j, j < i → t.1 149 j = m j) 108 (fun fu i t hi I hk => ?_) (fun fu t I => ?_) S1 ⟨fr_r, fun j hj => absurd hj (by omega)⟩
        · have n1 : ¬ 108 ≤ nI i := nI_ge (b := 108) hi (by omega)
          rw [e_X11_mean_62, ncl (by omega)]
          simp only [n1, eq_self, reduceCtorEq, true_implies, false_implies, and_true, true_and, not_true_eq_false, not_false_eq_true]
          refine ⟨vpin ⟨by omega, by omega⟩, vpin ⟨hi, by omega⟩, ?_⟩
          rintro _ rfl _ rfl
          rw [nIs]
          refine hk _ ⟨fr_i I.1 (by unfold a_sm; exact decide_eq_true (by omega)), fun j hj => ?_⟩
          rw [si1]
          by_cases q : j = i
          · rw [if_pos ⟨rfl, q⟩, q, M_0 (M_m M1 I.1) (by omega)]
          · rw [if_neg (fun w => q w.2)]; exact I.2 j (by omega)
        · obtain ⟨f2, k149⟩ := I
          have M2 := M_m M1 f2
          rw [e_X11_mean_62]
          simp only [show (108 : Int32) ≤ nI 108 from Int32.le_refl _, eq_self, reduceCtorEq, true_implies, false_implies, and_true, true_and, not_true_eq_false, not_false_eq_true]
          refine v_loop (fun fu i (p : vSt × Int64) => p_X11_mean_91 (nI s) (nI c) Q fu p.1 p.2 (nI i)) (fun i p => a_fr a_smc S1 p.1 ∧ (∀ j, j < 108 → p.1.1 149 j = m j) ∧ a_M p.1 0 m ∧ p.2 = lI ((a_nsm v i : Nat) : Int)) c (fun fu i p hi I hk => ?_) (fun fu p I => ?_) (t, 0) ⟨fr_w f2 (fun k j w => (Bool.or_eq_false_iff.mp w).1), k149, M2, rfl⟩
          · obtain ⟨S3, x3⟩ := p
            obtain ⟨f3, k3, M3, e3⟩ := I
            simp only at f3 k3 M3 e3
            subst e3
            have n1 : ¬ nI c ≤ nI i := nI_ge hi (by omega)
            obtain ⟨hv, ex⟩ := ex i hi
            rw [e_X11_mean_91, nI_add]
            simp only [n1, eq_self, reduceCtorEq, true_implies, false_implies, and_true, true_and, not_true_eq_false, not_false_eq_true]
            refine ex S3 _ M3 (fun S4 f4 e6 => ?_)
            rw [n6, e6, nI_lI (by omega)]
            refine ⟨v6, ?_⟩
            rintro _ rfl
            refine v_loop (fun fu' i' (t' : vSt) => p_X11_mean_119 (nI s) (nI c) (p_X11_mean_91 (nI s) (nI c) Q fu) Q fu' t' (lI ((a_nsm v i : Nat) : Int) + lI ((v i : Nat) : Int)) (nI i) (nI i')) (fun i' t' => a_fr (fun k j => decide (k = 148 ∧ j < 108)) S4 t' ∧ ∀ j, j < i' → t'.1 148 j = m j) 108 (fun fu' i' t' hi' I' hk' => ?_) (fun fu' t' I' => ?_) S4 ⟨fr_r, fun j hj => absurd hj (by omega)⟩
            · have n2 : ¬ 108 ≤ nI i' := nI_ge (b := 108) hi' (by omega)
              rw [e_X11_mean_119, ncl (by omega)]
              simp only [n2, eq_self, reduceCtorEq, true_implies, false_implies, and_true, true_and, not_true_eq_false, not_false_eq_true]
              refine ⟨vpin ⟨hi', by omega⟩, vpin ⟨by omega, by omega⟩, ?_⟩
              rintro _ rfl _ rfl
              rw [nIs]
              refine hk' _ ⟨fr_i I'.1 (decide_eq_true ⟨rfl, hi'⟩), fun j hj => ?_⟩
              rw [si1]
              by_cases q : j = i'
              · rw [if_pos ⟨rfl, q⟩, q, (I'.1 149 i' rfl).1, (f4 149 i' rfl).1]
                exact k3 i' hi'
              · rw [if_neg (fun w => q w.2)]; exact I'.2 j (by omega)
            · rw [e_X11_mean_119]
              simp only [show (108 : Int32) ≤ nI 108 from Int32.le_refl _, eq_self, reduceCtorEq, true_implies, false_implies, and_true, true_and, not_true_eq_false, not_false_eq_true]
              rintro _ rfl
              rw [nIs]
              have f5 : a_fr a_smc S1 t' := fr_t f3 (fr_t (fr_w f4 um_smc) (fr_w I'.1 (fun k j w => (Bool.or_eq_false_iff.mp w).2)))
              refine hk (t', _) ⟨f5, fun j hj => ?_, fun j hj => ?_, ?_⟩
              · rw [(I'.1 149 j rfl).1, (f4 149 j rfl).1]; exact k3 j hj
              · show t'.1 148 (380 * 0 + j) = m j
                rw [show 380 * 0 + j = j by omega]
                by_cases q : j < 108
                · exact I'.2 j q
                · rw [(I'.1 148 j (decide_eq_false (by omega))).1, (f4 148 j (decide_eq_false (by omega))).1]
                  exact M_0 M3 hj
              · show lI _ + lI _ = lI _
                rw [lI_add]
                rfl
          · obtain ⟨S3, x3⟩ := p
            obtain ⟨f3, k3, M3, e3⟩ := I
            simp only at f3 k3 M3 e3
            subst e3
            have b := nsm_lt (v := v) (c := c) (fun q hq => (ex q hq).1) c (Nat.le_refl _)
            rw [e_X11_mean_91]
            simp only [Int32.le_refl, eq_self, reduceCtorEq, true_implies, false_implies, and_true, true_and, not_true_eq_false, not_false_eq_true]
            rw [nI_l (by omega)]
            refine m_fraction (S := S3) (st := 0) ⟨fr_r, (f3 143 0 rfl).1.trans g1.2.1, rfl, rfl⟩ (by unfold a_fit; omega) (by omega) (by omega) (fun S' f' e1 e2 e3 => ?_)
            exact h S' (fr_t (fr_w g1.1 (fun k j w => (Bool.or_eq_false_iff.mp w).1)) (fr_t (fr_w f3 smc_smd) (fr_w f' (fun k j w => (Bool.or_eq_false_iff.mp w).1)))) (M_fr M3 f' (fun j => by simp [a_smm, a_sm])) e1 e2 e3
