/-! live, mean keep it -/
theorem in_nI {N : Nat} {x : Int32} (h : a_in 0 (nI N) x = true) (hN : N < 2 ^ 30) : ∃ s, s ≤ N ∧ x = nI s := by
  obtain ⟨k, h1, h2, -⟩ := a_in_t rfl hN h
  exact ⟨k, h1, h2⟩
theorem live_pair {S : vSt} {x : Int32} {Q : vSt → Prop} (inv : a_Inv S) (hQ : ∀ S2, a_Inv S2 → Q S2) : p_X10_live S x (fun r S1 => p_X11_live S1 x (fun r' S2 => (r = r' → Q S2) ∧ (¬ r = r' → False))) := by
  obtain ⟨⟨i14, i17, i18⟩, ⟨i15, i16⟩, -, tp, ci, -, lv, lr⟩ := id inv
  obtain ⟨m, nm, ok, nb, R, nx, M, nM, yc⟩ := id ci
  have h8 := ok_P8 ok
  have h10 := ok_D10 ok
  by_cases g : a_in 0 9999 x = true
  · by_cases z : S.1 25 8 = 0
    · have z2 : m 108 = 0 := by
        rcases yc with w | w
        · exact w.2
        · rw [show (10 + 15 : Nat) = 25 from rfl, z] at w; exact absurd w.1 (by decide)
      refine x_live (K := 0) (W := fun _ _ => 0) (N := 0) (ρ' := (m, 0, 0, fun _ => 0, false)) R (fun w => absurd z w) (fun _ w => absurd z w) (fun w => by rw [g] at w; cases w) (fun _ _ => ?_) (fun _ w => absurd z w)
      refine m_live (ρ' := (m, 0, 0, fun _ => 0, false)) (m := m) M (fun _ w => absurd z2 w) (fun w => by rw [g] at w; cases w) (fun _ _ => ⟨fun _ => ?_, fun w => absurd rfl w⟩) (fun _ w => absurd z2 w)
      rw [st_s]; exact hQ _ (Inv_st (Inv_1 inv))
    · obtain ⟨y8, m108, N, K, y6, y7, yr⟩ : S.1 (10 + 15) 8 = 1 ∧ m 108 = 1 ∧ ∃ N K, S.1 (10 + 15) 6 = nI N ∧ S.1 (10 + 15) 7 = nI K ∧ a_yrs m (fun c i => S.1 (10 + 16 + c) i) N K := by
        rcases yc with w | w
        · exact absurd w.1 z
        · exact w
      have z2 : m 108 ≠ 0 := by rw [m108]; decide
      obtain ⟨s, hs, rfl⟩ := in_nI (N := 9999) g (by omega)
      obtain ⟨ρ, oku, xr, mr⟩ := yr_ex (b := 10) (s := s) (a2 := nI s) (by omega) ok yr (by omega) rfl
      obtain ⟨ok', -, -, eP, eD, hi⟩ := oku
      refine x_live (K := 0) (ρ' := ρ) R (fun _ => ⟨y6, fun _ _ _ _ => rfl⟩) (fun _ _ => xr) (fun w => by rw [g] at w; cases w) (fun _ w => absurd w z) (fun _ _ S1 f1 R1 e12 e14 l1 => ?_)
      have M1 : a_M S1 0 m := M_fr M f1 (fun j => by simp [a_lvf, a_uf, a_sc])
      refine m_live (ρ' := ρ) M1 (fun _ _ => mr) (fun w => by rw [g] at w; cases w) (fun _ w => absurd w z2) (fun _ _ S2 f2 M2 e33 d0 l2 => ⟨fun _ => hQ S2 ?_, fun w => absurd rfl w⟩)
      have F : a_fr (fun k j => a_lvf k j || a_lvm k j) S S2 := fr_t (fr_w f1 (fun k j w => (Bool.or_eq_false_iff.mp w).1)) (fr_w f2 (fun k j w => (Bool.or_eq_false_iff.mp w).2))
      have c0 : ∀ k j, k < 143 → a_lvm k j = false := fun k j hk => Bool.or_eq_false_iff.mpr ⟨decide_eq_false (by omega), decide_eq_false (by omega)⟩
      have cl : ∀ k j, ¬ ((k = 10 ∧ 15 ≤ j ∧ j ≤ 18) ∨ (11 ≤ k ∧ k ≤ 24 ∧ k ≠ 12 ∧ k ≠ 18) ∨ k = 31 ∨ (k = 0 ∧ (j = 12 ∨ j = 14)) ∨ k = 74 ∨ k = 75 ∨ k = 76 ∨ k = 154 ∨ (k = 148 ∧ j < 108) ∨ (k = 143 ∧ (j = 0 ∨ j = 1 ∨ j = 26 ∨ (33 ≤ j ∧ j ≤ 40)))) → (a_lvf k j || a_lvm k j) = false := by
        intro k j w
        refine Bool.or_eq_false_iff.mpr ⟨Bool.or_eq_false_iff.mpr ⟨Bool.or_eq_false_iff.mpr ⟨decide_eq_false (by omega), decide_eq_false (by omega)⟩, decide_eq_false (by omega)⟩, Bool.or_eq_false_iff.mpr ⟨decide_eq_false (by omega), decide_eq_false (by omega)⟩⟩
      have g0 := fun k j hk => f2 k j (c0 k j hk)
      have e := fun k j w => F k j (cl k j w)
      refine Inv_gen inv F (fun k j w => cl k j (by unfold a_kp at w; omega)) (fun j h1 h2 => (e 150 j (by omega)).2) ⟨?_, ?_, ?_⟩ ⟨?_, ?_⟩ (Tp_fr tp F (cl 5 1 (by omega)) (fun j => cl 6 j (by omega)) (cl 143 8 (by omega)) (fun j => cl 147 j (by omega))) ?_ (Or.inr ⟨?_, e33⟩) (fun i hi => ?_)
      · rw [(g0 0 14 (by omega)).1, e14, d0]
      · rw [(e 0 17 (by omega)).2, (e 143 2 (by omega)).2]; exact i17
      · rw [(e 0 18 (by omega)).2, (e 143 3 (by omega)).2]; exact i18
      · rw [(e 0 15 (by omega)).1, (e 143 10 (by omega)).1]; exact i15
      · rw [(e 0 16 (by omega)).1, (e 143 11 (by omega)).1]; exact i16
      · refine ⟨ρ.1, nm, ok', ⟨fun p hp => nb.1 p (by omega), fun d hd => nb.2 d (by omega)⟩, R_fr R1 f2 (fun j hj => ?_), ⟨fun p hp => ?_, fun d hd => ?_⟩, M2, ⟨fun p hp => ?_, fun d hd => ?_⟩, Yc_m (Yc_fr yc F (fun k j h1 h2 => cl k j (by omega))) (Nat.le_of_eq eP.symm) (Nat.le_of_eq eD.symm) hi⟩
        · have h1 : (a_xr j).1 ≤ 14 := (by decide +kernel : ∀ i, i < 108 → (a_xr i).1 ≤ 14) j hj
          exact c0 _ _ (by omega)
        · rw [(e 12 p (by omega)).2]; exact nx.1 p (by omega)
        · rw [(e 18 d (by omega)).2]; exact nx.2 d (by omega)
        · rw [(e 150 _ (by omega)).2]; exact nM.1 p (by omega)
        · rw [(e 150 _ (by omega)).2]; exact nM.2 d (by omega)
      · rw [(g0 0 12 (by omega)).1]; exact e12
      · rw [(g0 76 i (by omega)).1, l1 i hi, l2 i hi]
  · have g : a_in 0 9999 x = false := by
      cases w : a_in 0 9999 x
      · rfl
      · exact absurd w g
    obtain ⟨N, W, yy⟩ : ∃ N W, S.1 25 8 ≠ 0 → a_yX 10 N W S := by
      rcases yc with w | ⟨-, -, N, K, y6, -, -⟩
      · exact ⟨0, fun _ _ => 0, fun q => absurd w.1 q⟩
      · exact ⟨N, fun c i => S.1 (10 + 16 + c) i, fun _ => ⟨y6, fun _ _ _ _ => rfl⟩⟩
    refine x_live (K := 0) (ρ' := (m, 0, 0, fun _ => 0, false)) R yy (fun w => by rw [g] at w; cases w) (fun _ => ?_) (fun w => by rw [g] at w; cases w) (fun w => by rw [g] at w; cases w)
    refine m_live (ρ' := (m, 0, 0, fun _ => 0, false)) (m := m) M (fun w => by rw [g] at w; cases w) (fun _ => ⟨fun _ => ?_, fun w => absurd rfl w⟩) (fun w => by rw [g] at w; cases w) (fun w => by rw [g] at w; cases w)
    rw [st_s]; exact hQ _ (Inv_st (Inv_1 inv))
theorem mean_v {m : Nat → Int32} {W : aW} {N K s0 : Nat} (ok : a_ok m) (Y : a_yrs m W N K) : ∃ v : Nat → Nat, ∀ q, s0 + q < 65536 → v q ≤ 99999 ∧ (∀ S (Q : vSt → Prop), a_R S 32 m → a_yX 32 N W S → (∀ S', a_fr (a_uf 32) S S' → S'.1 32 17 = nI (v q) → Q S') → p_X4_run 32 S (nI (s0 + q)) Q) ∧ ∀ S (Q : vSt → Prop), a_M S 0 m → (∀ S', a_fr a_um S S' → S'.1 148 6 = nI (v q) → Q S') → p_X11_runsYears S (nI (s0 + q)) Q := by
  have ex : ∀ q, ∃ t, s0 + q < 65536 → t ≤ 99999 ∧ (∀ S (Q : vSt → Prop), a_R S 32 m → a_yX 32 N W S → (∀ S', a_fr (a_uf 32) S S' → S'.1 32 17 = nI t → Q S') → p_X4_run 32 S (nI (s0 + q)) Q) ∧ ∀ S (Q : vSt → Prop), a_M S 0 m → (∀ S', a_fr a_um S S' → S'.1 148 6 = nI t → Q S') → p_X11_runsYears S (nI (s0 + q)) Q := by
    intro q
    by_cases c : s0 + q < 65536
    · obtain ⟨ρ, oku, xr, mr⟩ := yr_ex (b := 32) (s := s0 + q) (a2 := nI (s0 + q)) (by omega) ok Y c rfl
      have o6 := ok_T oku.1
      refine ⟨a_n (ρ.1 6), fun _ => ⟨o6.2.2, fun S Q R y h => xr S Q R y (fun S' f u => h S' f ((R_6 u.1).trans o6.1)), fun S Q M h => mr S Q M (fun S' f u => h S' f ((M_0 u.1 (by omega)).trans o6.1))⟩⟩
    · exact ⟨0, fun w => absurd w c⟩
  exact ⟨fun q => (ex q).choose, fun q w => (ex q).choose_spec w⟩
theorem mean_pair {S : vSt} {x z : Int32} {Q : vSt → Prop} (inv : a_Inv S) (hQ : ∀ S2, a_Inv S2 → Q S2) : p_X10_mean S x z (fun r S1 => p_X11_mean S1 x z (fun r' S2 => (r = r' → Q S2) ∧ (¬ r = r' → False))) := by
  obtain ⟨⟨i14, i17, i18⟩, ⟨i15, i16⟩, -, tp, ci, -, lv, lr⟩ := id inv
  obtain ⟨m, nm, ok, nb, R, nx, M, nM, yc⟩ := id ci
  have h8 := ok_P8 ok
  have h10 := ok_D10 ok
  have th : decide (¬ S.1 25 8 = 0) = decide (¬ m 108 = 0) := by
    rcases yc with ⟨a, b⟩ | ⟨a, b, -⟩
    · rw [show S.1 25 8 = 0 from a, b]
    · rw [show S.1 25 8 = 1 from a, b]
  obtain ⟨N, W, v, yy, hv⟩ : ∃ N W, ∃ v : Nat → Nat, (S.1 25 8 ≠ 0 → a_yX 10 N W S) ∧ (S.1 25 8 ≠ 0 → ∀ q, a_n x + q < 65536 → v q ≤ 99999 ∧ (∀ S (Q : vSt → Prop), a_R S 32 m → a_yX 32 N W S → (∀ S', a_fr (a_uf 32) S S' → S'.1 32 17 = nI (v q) → Q S') → p_X4_run 32 S (nI (a_n x + q)) Q) ∧ ∀ S (Q : vSt → Prop), a_M S 0 m → (∀ S', a_fr a_um S S' → S'.1 148 6 = nI (v q) → Q S') → p_X11_runsYears S (nI (a_n x + q)) Q) := by
    rcases yc with w | ⟨-, -, N, K, y6, -, yr⟩
    · exact ⟨0, fun _ _ => 0, fun _ => 0, fun q => absurd w.1 q, fun q => absurd w.1 q⟩
    · obtain ⟨v, hv⟩ := mean_v (s0 := a_n x) ok yr
      exact ⟨N, fun c i => S.1 (10 + 16 + c) i, v, fun _ => ⟨y6, fun _ _ _ _ => rfl⟩, fun _ => hv⟩
  have hv2 : decide (¬ S.1 25 8 = 0) = true → ∀ s c, x = nI s → z = nI c → s + c ≤ 10000 → ∀ q, q < c → v q ≤ 99999 ∧ (∀ S (Q : vSt → Prop), a_R S 32 m → a_yX 32 N W S → (∀ S', a_fr (a_uf 32) S S' → S'.1 32 17 = nI (v q) → Q S') → p_X4_run 32 S (nI (s + q)) Q) ∧ ∀ S (Q : vSt → Prop), a_M S 0 m → (∀ S', a_fr a_um S S' → S'.1 148 6 = nI (v q) → Q S') → p_X11_runsYears S (nI (s + q)) Q := by
    intro t s c es _ hsc q hq
    have en : a_n x = s := by rw [es]; exact a_n_nI (by omega)
    have := hv (of_decide_eq_true t) q (by omega)
    rwa [en] at this
  refine x_mean (there := decide (¬ S.1 25 8 = 0)) (v := v) R ok rfl (Yc_b yc) (fun t => yy (of_decide_eq_true t)) (fun t s c e1 e2 h q hq => ⟨(hv2 t s c e1 e2 h q hq).1, (hv2 t s c e1 e2 h q hq).2.1⟩) (fun S1 f1 e14 e17 e18 => ?_)
  have M1 : a_M S1 0 m := M_fr M f1 (fun j => by simp [a_sxx, a_sx])
  refine m_mean (there := decide (¬ S.1 25 8 = 0)) (v := v) M1 th (fun t s c e1 e2 h q hq => ⟨(hv2 t s c e1 e2 h q hq).1, (hv2 t s c e1 e2 h q hq).2.2⟩) (fun S2 f2 M2 d0 d2 d3 => ⟨fun _ => hQ S2 ?_, fun w => absurd rfl w⟩)
  have F : a_fr (fun k j => a_sxx k j || a_smd k j) S S2 := fr_t (fr_w f1 (fun k j w => (Bool.or_eq_false_iff.mp w).1)) (fr_w f2 (fun k j w => (Bool.or_eq_false_iff.mp w).2))
  have c0 : ∀ k j, k < 143 → a_smd k j = false := fun k j hk => Bool.or_eq_false_iff.mpr ⟨Bool.or_eq_false_iff.mpr ⟨decide_eq_false (by omega), decide_eq_false (by omega)⟩, decide_eq_false (by omega)⟩
  have cl : ∀ k j, ¬ ((31 ≤ k ∧ k ≤ 53) ∨ (55 ≤ k ∧ k ≤ 75) ∨ (7 ≤ k ∧ k ≤ 9) ∨ (k = 5 ∧ 7 ≤ j ∧ j ≤ 12) ∨ (k = 0 ∧ (j = 14 ∨ j = 17 ∨ j = 18)) ∨ (k = 143 ∧ (j ≤ 3 ∨ (12 ≤ j ∧ j ≤ 22) ∨ (24 ≤ j ∧ j ≤ 32) ∨ (34 ≤ j ∧ j ≤ 42))) ∨ k = 149 ∨ (151 ≤ k ∧ k ≤ 153) ∨ (k = 148 ∧ j < 108)) → (a_sxx k j || a_smd k j) = false := by
    intro k j w
    refine Bool.or_eq_false_iff.mpr ⟨Bool.or_eq_false_iff.mpr ⟨decide_eq_false (by omega), decide_eq_false (by omega)⟩, Bool.or_eq_false_iff.mpr ⟨Bool.or_eq_false_iff.mpr ⟨decide_eq_false (by omega), decide_eq_false (by omega)⟩, decide_eq_false (by omega)⟩⟩
  have g0 := fun k j hk => f2 k j (c0 k j hk)
  have e := fun k j w => F k j (cl k j w)
  have g143 : S1.2 143 2 = S.2 143 2 ∧ S1.2 143 3 = S.2 143 3 := ⟨(f1 143 2 rfl).2, (f1 143 3 rfl).2⟩
  refine Inv_gen inv F (fun k j w => cl k j (by unfold a_kp at w; omega)) (fun j h1 h2 => (e 150 j (by omega)).2) ⟨?_, ?_, ?_⟩ ⟨?_, ?_⟩ (Tp_fr tp F (cl 5 1 (by omega)) (fun j => cl 6 j (by omega)) (cl 143 8 (by omega)) (fun j => cl 147 j (by omega))) ?_ (Lv_fr lv F (cl 0 12 (by omega)) (cl 143 33 (by omega))) (lr_fr lr F (fun j => cl 76 j (by omega)) (fun j => cl 154 j (by omega)))
  · rw [(g0 0 14 (by omega)).1, e14, d0]
  · rw [(g0 0 17 (by omega)).2, e17, d2, g143.1, i17]
  · rw [(g0 0 18 (by omega)).2, e18, d3, g143.2, i18]
  · rw [(e 0 15 (by omega)).1, (e 143 10 (by omega)).1]; exact i15
  · rw [(e 0 16 (by omega)).1, (e 143 11 (by omega)).1]; exact i16
  · refine ⟨m, nm, ok, nb, R_fr R F (fun j hj => ?_), ⟨fun p hp => ?_, fun d hd => ?_⟩, M2, ⟨fun p hp => ?_, fun d hd => ?_⟩, Yc_fr yc F (fun k j h1 h2 => cl k j (by omega))⟩
    · have h1 : (a_xr j).1 ≤ 14 := (by decide +kernel : ∀ i, i < 108 → (a_xr i).1 ≤ 14) j hj
      exact cl _ _ (by omega)
    · rw [(e 12 p (by omega)).2]; exact nx.1 p hp
    · rw [(e 18 d (by omega)).2]; exact nx.2 d hd
    · rw [(e 150 _ (by omega)).2]; exact nM.1 p hp
    · rw [(e 150 _ (by omega)).2]; exact nM.2 d hd
