/-! THE LAW: a city is laid -/
def b_rt (J F P H : Nat) : List Nat := b_rule 0 J (b_rule 1 F (b_rule 2 P (b_rule 3 H [])))
theorem rt_app (J F P H : Nat) (R : List Nat) : b_rule 0 J (b_rule 1 F (b_rule 2 P (b_rule 3 H R))) = b_rt J F P H ++ R := by
  simp [b_rt, b_rule]
def b_pf (c k : Nat → Nat) : Nat → List Nat
  | 0 => []
  | n + 1 => b_pf c k n ++ b_per n (c n) (k n) []
theorem per_app (p c k : Nat) (R : List Nat) : b_per p c k R = b_per p c k [] ++ R := by
  simp [b_per]
theorem pers_pf (c k : Nat → Nat) : ∀ n p R, b_pf c k p ++ b_pers c k n p R = b_pf c k (p + n) ++ R
  | 0, p, R => rfl
  | n + 1, p, R => by
    show b_pf c k p ++ b_per p (c p) (k p) (b_pers c k n (p + 1) R) = _
    rw [per_app, ← List.append_assoc]
    show b_pf c k (p + 1) ++ b_pers c k n (p + 1) R = _
    rw [pers_pf c k n (p + 1) R, show p + 1 + n = p + (n + 1) by omega]
def b_df (o f w : Nat → Nat) : Nat → List Nat
  | 0 => []
  | n + 1 => b_df o f w n ++ b_dee n (o n) (f n) (w n) []
theorem dee_app (d o f w : Nat) (R : List Nat) : b_dee d o f w R = b_dee d o f w [] ++ R := by
  simp [b_dee]
theorem dees_df (o f w : Nat → Nat) : ∀ n d R, b_df o f w d ++ b_dees o f w n d R = b_df o f w (d + n) ++ R
  | 0, d, R => rfl
  | n + 1, d, R => by
    show b_df o f w d ++ b_dee d (o d) (f d) (w d) (b_dees o f w n (d + 1) R) = _
    rw [dee_app, ← List.append_assoc]
    show b_df o f w (d + 1) ++ b_dees o f w n (d + 1) R = _
    rw [dees_df o f w n (d + 1) R, show d + 1 + n = d + (n + 1) by omega]
theorem text_is (J F L H : Nat) (c k : Nat → Nat) (P : Nat) (o f w : Nat → Nat) (D : Nat) : b_text J F L H c k P o f w D = b_rt J F L H ++ b_pf c k P ++ b_df o f w D := by
  have e1 := pers_pf c k P 0 (b_dees o f w D 0 [])
  have e2 := dees_df o f w D 0 []
  rw [Nat.zero_add] at e1 e2
  have e1 : b_pers c k P 0 (b_dees o f w D 0 []) = b_pf c k P ++ b_dees o f w D 0 [] := e1
  have e2 : b_dees o f w D 0 [] = b_df o f w D ++ [] := e2
  unfold b_text
  rw [rt_app, e1, e2, List.append_nil, List.append_assoc]
section BY
variable {S0 S : vSt} {K : Bool → vSt → Prop} {T : List Nat} {N : Nat}
theorem N_h (W : b_N S0 S T N) (j : Nat) : S.1 144 j = S0.1 144 j := (W.1 144 j rfl).1
theorem N_w {T' : List Nat} {N' : Nat} (W : b_N S0 S T N) (e : T = T') (h : N ≤ N') : b_N S0 S T' N' := by
  subst e
  exact ⟨W.1, W.2.1, by have := W.2.2; omega⟩
theorem y_dees {o f w : Nat → Nat} {D : Nat} (hD : D ≤ 5) (h1 : S0.1 144 1 = nI D) (ho : ∀ d, d < D → S0.1 144 (14 + d) = nI (o d) ∧ o d < 5) (hf : ∀ d, d < 5 → S0.1 144 (19 + d) = nI (f d) ∧ f d < 1000) (hw : ∀ d, d < 5 → S0.1 144 (24 + d) = nI (w d) ∧ w d < 1000) (W : b_N S0 S T 300) (hK : ∀ S', b_N S0 S' (T ++ b_df o f w D) 600 → p_L_load S' (fun r62 S61 => (vp_in 1 29 ∧ ((¬ r62 = (S61.1 144 (Int32.toNatClampNeg 1)) → K false S61) ∧ (r62 = (S61.1 144 (Int32.toNatClampNeg 1)) → K true S61))))) : ∃ fu, p_L_lay_147 K fu S 0 := by
  obtain ⟨-, -, -, -, s5, -, -, -, s9, s10, s11, s12⟩ := s_k
  refine v_loop (fun fu i S => p_L_lay_147 K fu S (nI i)) (fun i S => b_N S0 S (T ++ b_df o f w i) (300 + 60 * i)) D (fun fu d S hd W hk => ?_) (fun fu S W => ?_) S (N_w W (by rw [show b_df o f w 0 = [] from rfl, List.append_nil]) (by omega))
  · rw [e_L_lay_147, show Int32.toNatClampNeg 1 = 1 from by decide, N_h W, h1]
    refine ⟨v29n (j := 1) (by omega), fun q => absurd q (nI_ge hd (by omega)), fun _ => ?_⟩
    rw [show (14 : Int32) + nI d = nI (14 + d) from nI_add 14 d, show (19 : Int32) + nI d = nI (19 + d) from nI_add 19 d, show (24 : Int32) + nI d = nI (24 + d) from nI_add 24 d, ncl (by omega), ncl (by omega), ncl (by omega)]
    obtain ⟨o1, o2⟩ := ho d hd
    obtain ⟨f1, f2⟩ := hf d (by omega)
    obtain ⟨w1, w2⟩ := hw d (by omega)
    refine n_say W (by omega) (by omega) (by omega) (fun S1 W1 => ?_)
    refine n_name (s := 100) W1 (by omega) (by omega) (by omega) (fun S2 W2 => ?_)
    refine n_say W2 (by omega) (by omega) (by omega) (fun S3 W3 => ⟨v29n (by omega), ?_⟩)
    rw [N_h W3, o1]
    refine n_name (s := 112) W3 (by omega) (by omega) (by omega) (fun S4 W4 => ?_)
    refine n_say W4 (by omega) (by omega) (by omega) (fun S5 W5 => ⟨v29n (by omega), ?_⟩)
    rw [N_h W5, f1]
    refine n_num W5 (by omega) f2 (fun S6 W6 => ?_)
    refine n_say W6 (by omega) (by omega) (by omega) (fun S7 W7 => ⟨v29n (by omega), ?_⟩)
    rw [N_h W7, w1]
    refine n_num W7 (by omega) w2 (fun S8 W8 => ?_)
    refine n_say W8 (by omega) (by omega) (by omega) (fun S9 W9 => ?_)
    rintro _ rfl
    rw [nIs]
    refine hk S9 (N_w W9 ?_ (by omega))
    rw [s5, s9, s10, s11, s12]
    simp [b_df, b_dee]
  · rw [e_L_lay_147, show Int32.toNatClampNeg 1 = 1 from by decide, N_h W, h1]
    refine ⟨v29n (j := 1) (by omega), fun _ => ?_, fun q => absurd (Int32.le_refl _) q⟩
    exact hK S (N_w W rfl (by omega))
theorem y_pers {c k o f w : Nat → Nat} {P D : Nat} (hP : P ≤ 4) (hD : D ≤ 5) (h0 : S0.1 144 0 = nI P) (h1 : S0.1 144 1 = nI D) (hc : ∀ p, p < 4 → S0.1 144 (6 + p) = nI (c p) ∧ c p < 1000) (hk : ∀ p, p < 4 → S0.1 144 (10 + p) = nI (k p) ∧ k p < 1000) (ho : ∀ d, d < D → S0.1 144 (14 + d) = nI (o d) ∧ o d < 5) (hf : ∀ d, d < 5 → S0.1 144 (19 + d) = nI (f d) ∧ f d < 1000) (hw : ∀ d, d < 5 → S0.1 144 (24 + d) = nI (w d) ∧ w d < 1000) (W : b_N S0 S T 80) (hK : ∀ S', b_N S0 S' (T ++ b_pf c k P ++ b_df o f w D) 600 → p_L_load S' (fun r62 S61 => (vp_in 1 29 ∧ ((¬ r62 = (S61.1 144 (Int32.toNatClampNeg 1)) → K false S61) ∧ (r62 = (S61.1 144 (Int32.toNatClampNeg 1)) → K true S61))))) : ∃ fu, p_L_lay_74 K fu S 0 := by
  obtain ⟨-, -, -, -, s5, s6, s7, s8, -, -, -, -⟩ := s_k
  refine v_loop (fun fu i S => p_L_lay_74 K fu S (nI i)) (fun i S => b_N S0 S (T ++ b_pf c k i) (80 + 50 * i)) P (fun fu p S hp W hk2 => ?_) (fun fu S W => ?_) S (N_w W (by rw [show b_pf c k 0 = [] from rfl, List.append_nil]) (by omega))
  · rw [e_L_lay_74, z0, N_h W, h0]
    refine ⟨v29, fun q => absurd q (nI_ge hp (by omega)), fun _ => ?_⟩
    rw [show (6 : Int32) + nI p = nI (6 + p) from nI_add 6 p, show (10 : Int32) + nI p = nI (10 + p) from nI_add 10 p, ncl (by omega), ncl (by omega)]
    obtain ⟨c1, c2⟩ := hc p (by omega)
    obtain ⟨k1, k2⟩ := hk p (by omega)
    refine n_say W (by omega) (by omega) (by omega) (fun S1 W1 => ?_)
    refine n_name (s := 112) W1 (by omega) (by omega) (by omega) (fun S2 W2 => ?_)
    refine n_say W2 (by omega) (by omega) (by omega) (fun S3 W3 => ⟨v29n (by omega), ?_⟩)
    rw [N_h W3, c1]
    refine n_num W3 (by omega) c2 (fun S4 W4 => ?_)
    refine n_say W4 (by omega) (by omega) (by omega) (fun S5 W5 => ⟨v29n (by omega), ?_⟩)
    rw [N_h W5, k1]
    refine n_num W5 (by omega) k2 (fun S6 W6 => ?_)
    refine n_say W6 (by omega) (by omega) (by omega) (fun S7 W7 => ?_)
    rintro _ rfl
    rw [nIs]
    refine hk2 S7 (N_w W7 ?_ (by omega))
    rw [s5, s6, s7, s8]
    simp [b_pf, b_per]
  · rw [e_L_lay_74, z0, N_h W, h0]
    refine ⟨v29, fun _ => ?_, fun q => absurd (Int32.le_refl _) q⟩
    exact y_dees hD h1 ho hf hw (N_w W rfl (by omega)) hK
theorem nb_cl {x : Int32} {lo hi : Nat} (h : a_nb x lo hi) : x = nI (max lo (min hi (a_n x))) := by
  obtain ⟨e, h1, h2⟩ := h
  rw [show max lo (min hi (a_n x)) = a_n x by omega]
  exact e
theorem y_lay (hH : b_H (S.1 144)) (W0 : b_W S []) (h13 : S.1 0 13 = 0) (hK : ∀ S' m, b_I S' m → b_Z m (a_P m) 10000 1000 (b_cs m (a_P m)) → K true S') : p_L_lay S K := by
  obtain ⟨⟨n0, n1, n01, n2, n3, n4, n5⟩, hp, hd⟩ := hH
  obtain ⟨s1, s2, s3, s4, s5, -⟩ := s_k
  have hP := n0.2.2
  have hD := n1.2.2
  unfold p_L_lay
  rw [show Int32.toNatClampNeg 22 = 22 from by decide, show Int32.toNatClampNeg 2 = 2 from by decide, show Int32.toNatClampNeg 3 = 3 from by decide, show Int32.toNatClampNeg 4 = 4 from by decide, show Int32.toNatClampNeg 5 = 5 from by decide]
  refine ⟨v24 (j := 22) (by omega), ?_⟩
  rintro _ rfl
  have h22 : (v_si S 143 22 0).1 143 22 = 0 := si_at
  have g : ∀ j, (v_si S 143 22 0).1 144 j = S.1 144 j := fun j => by rw [si1, if_neg (by omega)]
  have h13 : (v_si S 143 22 0).1 0 13 = 0 := by rw [si1, if_neg (by omega)]; exact h13
  have W1 : b_N (v_si S 143 22 0) (v_si S 143 22 0) [] 0 := by
    obtain ⟨q, r, hn, hr, hb, h21, h20, hm, by_, tp, ht⟩ := W0
    refine ⟨fr_r, ⟨q, r, hn, hr, hb, ?_, ?_, fun j hj => ?_, by_, ⟨tp.1, tp.2.1, tp.2.2⟩, ht⟩, Nat.le_refl _⟩
    · rw [si1, if_neg (by omega)]; exact h21
    · rw [si1, if_neg (by omega)]; exact h20
    · have hn : 0 = 20 * q + r := hn
      omega
  generalize v_si S 143 22 0 = S0 at h22 g h13 W1 ⊢
  have q0 : S0.1 144 0 = nI (a_n (S.1 144 0)) := (g 0).trans n0.1
  have q1 : S0.1 144 1 = nI (a_n (S.1 144 1)) := (g 1).trans n1.1
  have q2 : S0.1 144 2 = nI (a_n (S.1 144 2)) := (g 2).trans n2.1
  have q3 : S0.1 144 3 = nI (a_n (S.1 144 3)) := (g 3).trans n3.1
  have q4 : S0.1 144 4 = nI (a_n (S.1 144 4)) := (g 4).trans n4.1
  have q5 : S0.1 144 5 = nI (a_n (S.1 144 5)) := (g 5).trans n5.1
  have m2 := n2.2; have m3 := n3.2; have m4 := n4.2; have m5 := n5.2
  refine n_say W1 (by omega) (by omega) (by omega) (fun S1 W1 => ⟨v29n (j := 2) (by omega), ?_⟩)
  rw [N_h W1, q2]
  refine n_num W1 (by omega) (by omega) (fun S2 W2 => ?_)
  refine n_say W2 (by omega) (by omega) (by omega) (fun S3 W3 => ⟨v29n (j := 3) (by omega), ?_⟩)
  rw [N_h W3, q3]
  refine n_num W3 (by omega) (by omega) (fun S4 W4 => ?_)
  refine n_say W4 (by omega) (by omega) (by omega) (fun S5 W5 => ⟨v29n (j := 4) (by omega), ?_⟩)
  rw [N_h W5, q4]
  refine n_num W5 (by omega) (by omega) (fun S6 W6 => ?_)
  refine n_say W6 (by omega) (by omega) (by omega) (fun S7 W7 => ⟨v29n (j := 5) (by omega), ?_⟩)
  rw [N_h W7, q5]
  refine n_num W7 (by omega) (by omega) (fun S8 W8 => ?_)
  refine n_say W8 (by omega) (by omega) (by omega) (fun S9 W9 => ?_)
  have W9 : b_N S0 S9 (b_rt (a_n (S.1 144 2)) (a_n (S.1 144 3)) (a_n (S.1 144 4)) (a_n (S.1 144 5))) 80 := N_w W9 (by
    rw [s1, s2, s3, s4, s5]
    simp [b_rt, b_rule]) (by omega)
  refine y_pers (c := fun p => max 0 (min 127 (a_n (S.1 144 (6 + p))))) (k := fun p => max 0 (min 8 (a_n (S.1 144 (10 + p))))) (o := fun d => min (a_n (S.1 144 0) - 1) (a_n (S.1 144 (14 + d)))) (f := fun d => max 1 (min 128 (a_n (S.1 144 (19 + d))))) (w := fun d => max 0 (min 16 (a_n (S.1 144 (24 + d))))) hP hD q0 q1 (fun p h => ⟨(g _).trans (nb_cl (hp p h).1), by show max 0 (min 127 _) < 1000; omega⟩) (fun p h => ⟨(g _).trans (nb_cl (hp p h).2), by show max 0 (min 8 _) < 1000; omega⟩) (fun d h => ⟨(g _).trans ?_, by show min _ _ < 5; omega⟩) (fun d h => ⟨(g _).trans (nb_cl (hd d h).2.1), by show max 1 (min 128 _) < 1000; omega⟩) (fun d h => ⟨(g _).trans (nb_cl (hd d h).2.2), by show max 0 (min 16 _) < 1000; omega⟩) W9 (fun S10 W10 => ?_)
  · have P0 : S.1 144 0 ≠ 0 := fun w => by
      rw [n01 w] at h
      exact absurd h (Nat.not_lt_zero d)
    have lt := (hd d (by omega)).1.2 P0
    rw [show min (a_n (S.1 144 0) - 1) (a_n (S.1 144 (14 + d))) = a_n (S.1 144 (14 + d)) by omega]
    exact (hd d (by omega)).1.1.1
  rw [← text_is] at W10
  refine n_load W10 (by omega) h22 (fun wf => text_read (J := a_n (S.1 144 2)) (F := a_n (S.1 144 3)) (L := a_n (S.1 144 4)) (H := a_n (S.1 144 5)) (P := a_n (S.1 144 0)) (D := a_n (S.1 144 1)) (by omega) (by omega) (by omega) (by omega) (fun p => by show max 0 (min 127 _) ≤ 127; omega) (fun p => by show max 0 (min 8 _) ≤ 16; omega) hP (fun D0 d => ?_) (fun d => by show 1 ≤ max 1 (min 128 _) ∧ max 1 (min 128 _) ≤ 128; omega) (fun d => by show max 0 (min 16 _) ≤ 16; omega) hD (fun _ => 0) (Nat.le_refl _) wf) (fun s T1 T2 Q f1 f2 R y => ?_)
  · have P0 : S.1 144 0 ≠ 0 := fun w => by
      rw [n01 w] at D0
      exact absurd D0 (Nat.not_lt_zero 0)
    have np : 0 < a_n (S.1 144 0) := by
      rcases Nat.eq_zero_or_pos (a_n (S.1 144 0)) with q | q
      · have := n0.1
        rw [q] at this
        exact absurd this P0
      · exact q
    show min (a_n (S.1 144 0) - 1) _ < a_n (S.1 144 0)
    omega
  · obtain ⟨pi, eP, eD, eJ, eL, e6, hpp, -⟩ := Q
    have t1 : T2.1 144 1 = nI (a_n (S.1 144 1)) := (f2 144 1 rfl).1.trans ((f1 144 1 rfl).1.trans q1)
    have t0 : T2.1 144 0 = nI (a_n (S.1 144 0)) := (f2 144 0 rfl).1.trans ((f1 144 0 rfl).1.trans q0)
    have t13 : T2.1 0 13 = 0 := (f2 0 13 rfl).1.trans ((f1 0 13 rfl).1.trans h13)
    have hJ : a_J s.1 ≤ 5 := by
      unfold a_J
      rw [eJ, a_n_nI (by omega)]
      exact m2.2
    rw [show Int32.toNatClampNeg 1 = 1 from by decide, t1, eD]
    refine ⟨v29n (j := 1) (by omega), fun w => absurd rfl w, fun _ => hK T2 s.1 ⟨pi.1, R, ?_, t13, y, hJ, ?_⟩ ⟨fun p hp => ?_, ?_, rfl⟩⟩
    · rw [eP]; exact t0
    · rw [eP]; exact hP
    · rw [eP] at hp
      obtain ⟨-, c, c1, c2⟩ := hpp p hp
      rw [c2, nI_tI (by omega)]
      omega
    · rw [e6, show (0 : Int32).toInt = 0 from by decide]
      omega
end BY
/-! THE LAW whole, from behind its makings -/
theorem l_33 {L : Nat} {xs : Nat → Int32} {S : vSt} {s0 : Int32} (hL : L ≤ 260) (W0 : b_W S []) (h13 : S.1 0 13 = 0) : p_L_law_33 L xs () S s0 := by
  unfold p_L_law_33
  refine x_drawn hL (fun S1 f1 hH => ?_)
  have W1 : b_W S1 [] := by
    obtain ⟨q, r, hn, hr, hb, h21, h20, hm, by_, tp, ht⟩ := W0
    have hn : 0 = 20 * q + r := hn
    exact ⟨q, r, hn, hr, hb, (f1 143 21 rfl).1.trans h21, (f1 143 20 rfl).1.trans h20, fun j hj => by omega, by_, ⟨tp.1, (f1 5 1 rfl).1.trans tp.2.1, fun j hj => (f1 6 j rfl).1.trans (tp.2.2 j hj)⟩, ht⟩
  refine y_lay hH W1 ((f1 0 13 rfl).1.trans h13) (fun S2 m I Z => ⟨fun _ => ?_, fun w => Bool.noConfusion w⟩)
  refine b_many (k := 6) I (by omega) (fun S3 I3 => ?_)
  rw [show a_fact m 6 = m 6 from rfl]
  exact l_62 hL I3 Z
theorem l_18 {L : Nat} {xs : Nat → Int32} {S : vSt} (hL : L ≤ 260) (W0 : b_W S []) (h13 : S.1 0 13 = 0) : p_L_law_18 L xs () S := by
  unfold p_L_law_18
  refine ⟨fun w => ⟨?_, l_33 hL W0 h13⟩, fun _ => l_33 hL W0 h13⟩
  have L0 : 0 < L := by
    rcases Nat.eq_zero_or_pos L with q | q
    · exact absurd (by rw [q]; rfl) w
    · exact q
  rw [show Int32.ofNat L - 1 = nI (L - 1) from pk_sub (a := L) (b := 1) (by omega)]
  exact vpin ⟨by omega, by omega⟩
