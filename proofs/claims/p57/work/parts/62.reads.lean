/-! the laid city, read -/
/-- how far it is read: P persons, D deeds -/
def b_Q (J L P D : Nat) (s : aS) : Prop := a_PI s ∧ a_P s.1 = P ∧ a_D s.1 = D ∧ s.1 2 = nI J ∧ s.1 4 = nI L ∧ s.1 6 = 0 ∧ (∀ p, p < P → s.2.1 p = b_nc 112 p ∧ ∃ c, c ≤ 127 ∧ s.1 (8 + p) = nI c) ∧ ∀ d, d < D → s.2.1 (8 + d) = b_nc 100 d ∧ ∃ f, f ≤ 128 ∧ s.1 (58 + d) = nI f
theorem Q_p {J L P D : Nat} {s : aS} (q : b_Q J L P D s) (k : Nat) (hk : P ≤ k) : a_pb s.1 s.2.1 (b_nc 112 k) = none := by
  obtain ⟨-, e1, -, -, -, -, h, -⟩ := q
  unfold a_pb
  rw [e1]
  refine first_none _ (fun p hp => decide_eq_false ?_)
  rw [(h p hp).1]
  unfold b_nc
  omega
theorem Q_pd {J L P D : Nat} {s : aS} (q : b_Q J L P D s) (k : Nat) (hk : k < 10) : a_pb s.1 s.2.1 (b_nc 100 k) = none := by
  obtain ⟨-, e1, -, -, -, -, h, -⟩ := q
  unfold a_pb
  rw [e1]
  refine first_none _ (fun p hp => decide_eq_false ?_)
  rw [(h p hp).1]
  unfold b_nc
  omega
theorem Q_d {J L P D : Nat} {s : aS} (q : b_Q J L P D s) (k : Nat) (hk : D ≤ k) : a_db s.1 s.2.1 (b_nc 100 k) = none := by
  obtain ⟨-, -, e1, -, -, -, -, h⟩ := q
  unfold a_db
  rw [e1]
  refine first_none _ (fun p hp => decide_eq_false ?_)
  rw [(h p hp).1]
  unfold b_nc
  omega
theorem Q_dp {J L P D : Nat} {s : aS} (q : b_Q J L P D s) (k : Nat) (hD : D ≤ 10) : a_db s.1 s.2.1 (b_nc 112 k) = none := by
  obtain ⟨-, -, e1, -, -, -, -, h⟩ := q
  unfold a_db
  rw [e1]
  refine first_none _ (fun p hp => decide_eq_false ?_)
  rw [(h p hp).1]
  unfold b_nc
  omega
theorem Q_o {J L P D : Nat} {s : aS} (q : b_Q J L P D s) {k : Nat} (hk : k < P) : a_pb s.1 s.2.1 (b_nc 112 k) = some k := by
  obtain ⟨-, e1, -, -, -, -, h, -⟩ := q
  unfold a_pb
  rw [e1]
  refine first_some (c := fun p => decide (s.2.1 p = b_nc 112 k)) (i := k) (fun p hp => decide_eq_false ?_) (decide_eq_true (h k hk).1) _ hk
  rw [(h p (by omega)).1]
  unfold b_nc
  omega
theorem go1 {s s' : aS} {t : aK} {R R' : List aK} {fu : Nat} (hf : (t :: R).length ≤ fu) (wf : a_wf (t :: R)) (pi : a_PI s) (h0 : t.1 ≠ 0) (hs : a_ps (a_rpt s (t :: R)) = .inr (s', R')) : a_PI s' ∧ a_wf R' ∧ ∃ fu', R'.length ≤ fu' ∧ a_rcy fu s (t :: R) = a_rcy fu' s' R' := by
  obtain ⟨p1, w1, l1⟩ := ps_ok pi wf hs
  have l1 : R'.length < (t :: R).length := l1
  have e : (t :: R).length = R.length + 1 := rfl
  exact ⟨p1, w1, rcy_step hf h0 hs (by omega)⟩
theorem rlo_v : a_n (a_rlo 0) = 1 ∧ a_n (a_rlo 1) = 0 ∧ a_n (a_rlo 2) = 0 ∧ a_n (a_rlo 3) = 0 ∧ a_n (a_rhi 0) = 9 ∧ a_n (a_rhi 1) = 9 ∧ a_n (a_rhi 2) = 999 ∧ a_n (a_rhi 3) = 16 := by decide +kernel
theorem rules_go {J F L H : Nat} (hJ : 1 ≤ J ∧ J ≤ 9) (hF : F ≤ 9) (hL : L ≤ 999) (hH : H ≤ 16) (nm : Nat → Nat) {A R : List Nat} {fu : Nat} (hf : (b_t A (b_rule 0 J (b_rule 1 F (b_rule 2 L (b_rule 3 H R))))).length ≤ fu) (wf : a_wf (b_t A (b_rule 0 J (b_rule 1 F (b_rule 2 L (b_rule 3 H R)))))) : ∃ s A' fu', b_Q J L 0 0 s ∧ (b_t A' R).length ≤ fu' ∧ a_wf (b_t A' R) ∧ a_rcy fu (a_me, nm, 0) (b_t A (b_rule 0 J (b_rule 1 F (b_rule 2 L (b_rule 3 H R))))) = a_rcy fu' s (b_t A' R) := by
  obtain ⟨l0, l1, l2, l3, u0, u1, u2, u3⟩ := rlo_v
  obtain ⟨i1, i2, i3, A1, e1⟩ := bt_rule A (b_rule 1 F (b_rule 2 L (b_rule 3 H R))) (q := 0) (v := J) (by omega) (by omega)
  rw [e1] at hf wf ⊢
  obtain ⟨p1, w1, f1, g1, r1⟩ := go1 hf wf (me_PI nm) (show 2 ≠ 0 by omega) (ps_rule (by omega) (show (0 : Nat).testBit 0 = false from rfl) (by rw [l0, u0]; omega))
  rw [r1]
  clear r1 hf wf e1
  obtain ⟨j1, j2, j3, A2, e2⟩ := bt_rule A1 (b_rule 2 L (b_rule 3 H R)) (q := 1) (v := F) (by omega) (by omega)
  rw [e2] at g1 w1 ⊢
  obtain ⟨p2, w2, f2, g2, r2⟩ := go1 g1 w1 p1 (show 2 ≠ 0 by omega) (ps_rule (by omega) (show (0 ||| 2 ^ 0 : Nat).testBit 1 = false from rfl) (by rw [l1, u1]; omega))
  rw [r2]
  clear r2 g1 w1 e2
  obtain ⟨k1, k2, k3, A3, e3⟩ := bt_rule A2 (b_rule 3 H R) (q := 2) (v := L) (by omega) (by omega)
  rw [e3] at g2 w2 ⊢
  obtain ⟨p3, w3, f3, g3, r3⟩ := go1 g2 w2 p2 (show 2 ≠ 0 by omega) (ps_rule (by omega) (show (0 ||| 2 ^ 0 ||| 2 ^ 1 : Nat).testBit 2 = false from rfl) (by rw [l2, u2]; omega))
  rw [r3]
  clear r3 g2 w2 e3
  obtain ⟨m1, m2, m3, A4, e4⟩ := bt_rule A3 R (q := 3) (v := H) (by omega) (by omega)
  rw [e4] at g3 w3 ⊢
  obtain ⟨p4, w4, f4, g4, r4⟩ := go1 g3 w3 p3 (show 2 ≠ 0 by omega) (ps_rule (by omega) (show (0 ||| 2 ^ 0 ||| 2 ^ 1 ||| 2 ^ 2 : Nat).testBit 3 = false from rfl) (by rw [l3, u3]; omega))
  rw [r4]
  refine ⟨_, A4, f4, ⟨p4, ?_, ?_, ?_, ?_, ?_, fun p hp => absurd hp (by omega), fun d hd => absurd hd (by omega)⟩, g4, w4, rfl⟩
  · show a_n (a_set (a_set (a_set (a_set a_me (2 + 0) (nI J)) (2 + 1) (nI F)) (2 + 2) (nI L)) (2 + 3) (nI H) 0) = 0
    rw [a_set_ne (by omega), a_set_ne (by omega), a_set_ne (by omega), a_set_ne (by omega)]; rfl
  · show a_n (a_set (a_set (a_set (a_set a_me (2 + 0) (nI J)) (2 + 1) (nI F)) (2 + 2) (nI L)) (2 + 3) (nI H) 1) = 0
    rw [a_set_ne (by omega), a_set_ne (by omega), a_set_ne (by omega), a_set_ne (by omega)]; rfl
  · show a_set (a_set (a_set (a_set a_me (2 + 0) (nI J)) (2 + 1) (nI F)) (2 + 2) (nI L)) (2 + 3) (nI H) 2 = nI J
    rw [a_set_ne (by omega), a_set_ne (by omega), a_set_ne (by omega)]
    exact a_set_eq
  · show a_set (a_set (a_set (a_set a_me (2 + 0) (nI J)) (2 + 1) (nI F)) (2 + 2) (nI L)) (2 + 3) (nI H) 4 = nI L
    rw [a_set_ne (by omega)]
    exact a_set_eq
  · show a_set (a_set (a_set (a_set a_me (2 + 0) (nI J)) (2 + 1) (nI F)) (2 + 2) (nI L)) (2 + 3) (nI H) 6 = 0
    rw [a_set_ne (by omega), a_set_ne (by omega), a_set_ne (by omega), a_set_ne (by omega)]; rfl
def b_pers (c k : Nat → Nat) : Nat → Nat → List Nat → List Nat
  | 0, _, R => R
  | n + 1, p, R => b_per p (c p) (k p) (b_pers c k n (p + 1) R)
theorem pers_go {J L : Nat} {c k : Nat → Nat} (hc : ∀ p, c p ≤ 127) (hk : ∀ p, k p ≤ 16) : ∀ (n p : Nat) (s : aS) (A R : List Nat) (fu : Nat), b_Q J L p 0 s → p + n ≤ 4 → (b_t A (b_pers c k n p R)).length ≤ fu → a_wf (b_t A (b_pers c k n p R)) → ∃ s' A' fu', b_Q J L (p + n) 0 s' ∧ (b_t A' R).length ≤ fu' ∧ a_wf (b_t A' R) ∧ a_rcy fu s (b_t A (b_pers c k n p R)) = a_rcy fu' s' (b_t A' R)
  | 0, p, s, A, R, fu, q, _, hf, wf => ⟨s, A, fu, q, hf, wf, rfl⟩
  | n + 1, p, s, A, R, fu, q, hn, hf, wf => by
    have es : b_pers c k (n + 1) p R = b_per p (c p) (k p) (b_pers c k n (p + 1) R) := rfl
    have hcp := hc p
    have hkp := hk p
    obtain ⟨i1, i2, i3, i4, i5, i6, i7, A1, e1⟩ := bt_per A (b_pers c k n (p + 1) R) (p := p) (c := c p) (k := k p) (by omega) (by omega) (by omega)
    rw [es, e1] at hf wf ⊢
    have q0 := q
    obtain ⟨pi, eP, eD, eJ, eL, e6, hp, hd⟩ := q
    obtain ⟨p1, w1, f1, g1, r1⟩ := go1 hf wf pi (show 2 ≠ 0 by omega) (ps_per (by omega) (Q_p q0 p (Nat.le_refl _)) (Q_dp q0 p (by omega)) (by omega) (by omega))
    rw [r1]
    have hPD := adp_PD (c := nI (c p)) (s := nI (k p)) pi.1 (by omega)
    have q1 : b_Q J L (p + 1) 0 (a_adp s.1 (nI (c p)) (nI (k p)), a_up2 s.2.1 (a_P s.1) (b_nc 112 p), s.2.2) := by
      refine ⟨p1, by show a_P (a_adp s.1 (nI (c p)) (nI (k p))) = p + 1; rw [hPD.1, eP], by show a_D (a_adp s.1 (nI (c p)) (nI (k p))) = 0; rw [hPD.2, eD], (adp_ne (by omega) (by omega) (by omega)).trans eJ, (adp_ne (by omega) (by omega) (by omega)).trans eL, (adp_ne (by omega) (by omega) (by omega)).trans e6, fun j hj => ?_, fun d hd => absurd hd (by omega)⟩
      by_cases e : j = p
      · subst e
        refine ⟨?_, c j, hcp, ?_⟩
        · show a_up2 s.2.1 (a_P s.1) (b_nc 112 j) j = _
          unfold a_up2
          rw [if_pos eP.symm]
        · show a_adp s.1 (nI (c j)) (nI (k j)) (8 + j) = _
          rw [← eP]
          exact adp_8
      · obtain ⟨h1, x, h2, h3⟩ := hp j (by omega)
        refine ⟨?_, x, h2, ?_⟩
        · show a_up2 s.2.1 (a_P s.1) (b_nc 112 p) j = _
          unfold a_up2
          rw [if_neg (by omega)]
          exact h1
        · exact (adp_ne (by omega) (by omega) (by omega)).trans h3
    obtain ⟨s', A', fu', q', g', w', r'⟩ := pers_go hc hk n (p + 1) _ A1 R f1 q1 (by omega) g1 w1
    exact ⟨s', A', fu', by rw [show p + (n + 1) = p + 1 + n by omega]; exact q', g', w', r'⟩
def b_dees (o f w : Nat → Nat) : Nat → Nat → List Nat → List Nat
  | 0, _, R => R
  | n + 1, d, R => b_dee d (o d) (f d) (w d) (b_dees o f w n (d + 1) R)
theorem cm1_PD {m : Nat → Int32} {p f o : Int32} (ok : a_ok m) : a_P (a_cm1 m p f o) = a_P m ∧ a_D (a_cm1 m p f o) = a_D m + 1 := by
  have h10 := ok_D10 ok
  refine ⟨?_, ?_⟩
  · show a_n (a_cm1 m p f o 0) = a_n (m 0)
    rw [cm1_ne (by omega) (by omega) (by omega) (by omega)]
  · show a_n (a_cm1 m p f o 1) = a_D m + 1
    rw [cm1_1, ok_m1 ok, nIs, a_n_nI (by omega)]
theorem cm1_58 {m : Nat → Int32} {p f o : Int32} : a_cm1 m p f o (58 + a_D m) = f := by
  unfold a_cm1
  rw [a_set_ne (by omega)]
  exact a_set_eq
theorem dees_go {J L P : Nat} {o f w : Nat → Nat} (ho : ∀ d, o d < P) (hP : P ≤ 4) (hf1 : ∀ d, 1 ≤ f d ∧ f d ≤ 128) (hw : ∀ d, w d ≤ 16) : ∀ (n d : Nat) (s : aS) (A R : List Nat) (fu : Nat), b_Q J L P d s → d + n ≤ 5 → (b_t A (b_dees o f w n d R)).length ≤ fu → a_wf (b_t A (b_dees o f w n d R)) → ∃ s' A' fu', b_Q J L P (d + n) s' ∧ (b_t A' R).length ≤ fu' ∧ a_wf (b_t A' R) ∧ a_rcy fu s (b_t A (b_dees o f w n d R)) = a_rcy fu' s' (b_t A' R)
  | 0, d, s, A, R, fu, q, _, hf, wf => ⟨s, A, fu, q, hf, wf, rfl⟩
  | n + 1, d, s, A, R, fu, q, hn, hf, wf => by
    have es : b_dees o f w (n + 1) d R = b_dee d (o d) (f d) (w d) (b_dees o f w n (d + 1) R) := rfl
    have h1 := ho d
    have h2 := hf1 d
    have h3 := hw d
    obtain ⟨i1, i2, i3, i4, i5, i6, i7, i8, i9, A1, e1⟩ := bt_dee A (b_dees o f w n (d + 1) R) (d := d) (o := o d) (f := f d) (w := w d) (by omega) (by omega) (by omega) (by omega)
    rw [es, e1] at hf wf ⊢
    have q0 := q
    obtain ⟨pi, eP, eD, eJ, eL, e6, hp, hd⟩ := q
    obtain ⟨p1, w1, g, g1, r1⟩ := go1 hf wf pi (show 2 ≠ 0 by omega) (ps_dee (by omega) (Q_pd q0 d (by omega)) (Q_d q0 d (Nat.le_refl _)) (Q_o q0 h1) (by omega) (by omega))
    rw [r1]
    have hPD := cm1_PD (p := nI (o d)) (f := nI (f d)) (o := nI (w d)) pi.1
    have q1 : b_Q J L P (d + 1) (a_cm1 s.1 (nI (o d)) (nI (f d)) (nI (w d)), a_up2 s.2.1 (8 + a_D s.1) (b_nc 100 d), s.2.2) := by
      refine ⟨p1, by show a_P (a_cm1 s.1 (nI (o d)) (nI (f d)) (nI (w d))) = P; rw [hPD.1, eP], by show a_D (a_cm1 s.1 (nI (o d)) (nI (f d)) (nI (w d))) = d + 1; rw [hPD.2, eD], (cm1_ne (by omega) (by omega) (by omega) (by omega)).trans eJ, (cm1_ne (by omega) (by omega) (by omega) (by omega)).trans eL, (cm1_ne (by omega) (by omega) (by omega) (by omega)).trans e6, fun j hj => ?_, fun j hj => ?_⟩
      · obtain ⟨q1, x, q2, q3⟩ := hp j hj
        refine ⟨?_, x, q2, (cm1_ne (by omega) (by omega) (by omega) (by omega)).trans q3⟩
        show a_up2 s.2.1 (8 + a_D s.1) (b_nc 100 d) j = _
        unfold a_up2
        rw [if_neg (by omega)]
        exact q1
      · by_cases e : j = d
        · subst e
          refine ⟨?_, f j, h2.2, ?_⟩
          · show a_up2 s.2.1 (8 + a_D s.1) (b_nc 100 j) (8 + j) = _
            unfold a_up2
            rw [if_pos (by omega)]
          · show a_cm1 s.1 (nI (o j)) (nI (f j)) (nI (w j)) (58 + j) = _
            rw [← eD]
            exact cm1_58
        · obtain ⟨q1, x, q2, q3⟩ := hd j (by omega)
          refine ⟨?_, x, q2, ?_⟩
          · show a_up2 s.2.1 (8 + a_D s.1) (b_nc 100 d) (8 + j) = _
            unfold a_up2
            rw [if_neg (by omega)]
            exact q1
          · exact (cm1_ne (by omega) (by omega) (by omega) (by omega)).trans q3
    obtain ⟨s', A', fu', q', g', w', r'⟩ := dees_go ho hP hf1 hw n (d + 1) _ A1 R g q1 (by omega) g1 w1
    exact ⟨s', A', fu', by rw [show d + (n + 1) = d + 1 + n by omega]; exact q', g', w', r'⟩
/-- the whole text -/
def b_text (J F L H : Nat) (c k : Nat → Nat) (P : Nat) (o f w : Nat → Nat) (D : Nat) : List Nat := b_rule 0 J (b_rule 1 F (b_rule 2 L (b_rule 3 H (b_pers c k P 0 (b_dees o f w D 0 [])))))
theorem text_read {J F L H P D : Nat} {c k o f w : Nat → Nat} (hJ : 1 ≤ J ∧ J ≤ 9) (hF : F ≤ 9) (hL : L ≤ 999) (hH : H ≤ 16) (hc : ∀ p, c p ≤ 127) (hk : ∀ p, k p ≤ 16) (hP : P ≤ 4) (ho : 0 < D → ∀ d, o d < P) (hf : ∀ d, 1 ≤ f d ∧ f d ≤ 128) (hw : ∀ d, w d ≤ 16) (hD : D ≤ 5) (nm : Nat → Nat) {fu : Nat} (hfu : (b_t [] (b_text J F L H c k P o f w D)).length ≤ fu) (wf : a_wf (b_t [] (b_text J F L H c k P o f w D))) : ∃ s, b_Q J L P D s ∧ a_rcy fu (a_me, nm, 0) (b_t [] (b_text J F L H c k P o f w D)) = .inr s := by
  obtain ⟨s1, A1, f1, q1, g1, w1, r1⟩ := rules_go hJ hF hL hH nm hfu wf
  obtain ⟨s2, A2, f2, q2, g2, w2, r2⟩ := pers_go hc hk P 0 s1 A1 _ f1 q1 (by omega) g1 w1
  rw [Nat.zero_add] at q2
  have e0 : a_rcy fu (a_me, nm, 0) (b_t [] (b_text J F L H c k P o f w D)) = a_rcy f2 s2 (b_t A2 (b_dees o f w D 0 [])) := r1.trans r2
  by_cases z : D = 0
  · subst z
    refine ⟨s2, q2, e0.trans ?_⟩
    show a_rcy f2 s2 (b_t A2 []) = _
    rw [bt_nil]
    exact rcy_end _
  · obtain ⟨s3, A3, f3, q3, g3, w3, r3⟩ := dees_go (ho (by omega)) hP hf hw D 0 s2 A2 [] f2 q2 (by omega) g2 w2
    rw [Nat.zero_add] at q3
    refine ⟨s3, q3, (e0.trans r3).trans ?_⟩
    rw [bt_nil]
    exact rcy_end _
