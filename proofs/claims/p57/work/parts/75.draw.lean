/-! THE LAW: what is drawn -/
def b_H1 (g : Nat → Int32) : Prop := a_nb (g 0) 0 4 ∧ a_nb (g 1) 0 5 ∧ (g 0 = 0 → g 1 = 0) ∧ a_nb (g 2) 1 5 ∧ a_nb (g 3) 0 5 ∧ a_nb (g 4) 0 63 ∧ a_nb (g 5) 0 16
def b_Hp (g : Nat → Int32) (p : Nat) : Prop := a_nb (g (6 + p)) 0 127 ∧ a_nb (g (10 + p)) 0 8
def b_Hd (g : Nat → Int32) (d : Nat) : Prop := (a_nb (g (14 + d)) 0 3 ∧ (g 0 ≠ 0 → a_n (g (14 + d)) < a_n (g 0))) ∧ a_nb (g (19 + d)) 1 128 ∧ a_nb (g (24 + d)) 0 16
def b_H (g : Nat → Int32) : Prop := b_H1 g ∧ (∀ p, p < 4 → b_Hp g p) ∧ ∀ d, d < 5 → b_Hd g d
def b_f4 (k _j : Nat) : Bool := decide (k = 144)
theorem g_set {S : vSt} {j : Nat} {x : Int32} : (v_si S 144 j x).1 144 = a_set (S.1 144) j x := by
  funext i
  rw [si1]
  unfold a_set
  by_cases c : i = j
  · rw [if_pos ⟨rfl, c⟩, if_pos c]
  · rw [if_neg (fun w => c w.2), if_neg c]
theorem H1_set {g : Nat → Int32} {j : Nat} {x : Int32} (h : b_H1 g) (hj : 6 ≤ j) : b_H1 (a_set g j x) := by
  unfold b_H1
  rw [a_set_ne (by omega), a_set_ne (by omega), a_set_ne (by omega), a_set_ne (by omega), a_set_ne (by omega), a_set_ne (by omega)]
  exact h
theorem Hp_set {g : Nat → Int32} {j p : Nat} {x : Int32} (h : b_Hp g p) (h1 : j ≠ 6 + p) (h2 : j ≠ 10 + p) : b_Hp (a_set g j x) p := by
  unfold b_Hp
  rw [a_set_ne (by omega), a_set_ne (by omega)]
  exact h
theorem Hd_set {g : Nat → Int32} {j d : Nat} {x : Int32} (h : b_Hd g d) (h0 : j ≠ 0) (h1 : j ≠ 14 + d) (h2 : j ≠ 19 + d) (h3 : j ≠ 24 + d) : b_Hd (a_set g j x) d := by
  unfold b_Hd
  rw [a_set_ne (by omega), a_set_ne (by omega), a_set_ne (by omega), a_set_ne (by omega)]
  exact h
theorem nb_and (x : Int32) {m : Int32} (k : Nat) (hm : m.toBitVec.toNat = 2 ^ k - 1) (hk : k ≤ 30) : a_nb (x &&& m) 0 (2 ^ k - 1) := by
  obtain ⟨j, hj, e⟩ := pk_andE x k hm
  have h2 : 2 ^ k ≤ 2 ^ 30 := Nat.pow_le_pow_right (by omega) hk
  rw [e]
  exact a_nb_nI (by omega) (by omega) (by omega)
theorem nb_rem (x : Int32) {m : Int32} (k : Nat) (hm : m.toBitVec.toNat = 2 ^ k - 1) (hk : k ≤ 30) {d : Nat} (h0 : 0 < d) (hd : d < 2 ^ 31) : a_nb ((x &&& m) - (x &&& m) / nI d * nI d) 0 (d - 1) := by
  obtain ⟨j, hj, e⟩ := pk_andE x k hm
  have h2 : 2 ^ k ≤ 2 ^ 30 := Nat.pow_le_pow_right (by omega) hk
  rw [e, pk_rem (by omega) h0 hd]
  have := Nat.mod_lt j h0
  exact a_nb_nI (by omega) (by omega) (by omega)
theorem nb_1 {x : Int32} {lo hi : Nat} (h : a_nb x lo hi) (hh : hi < 2 ^ 30) : a_nb (1 + x) (1 + lo) (1 + hi) := by
  obtain ⟨e, h1, h2⟩ := h
  rw [e, show (1 : Int32) = nI 1 from rfl, nI_add]
  exact a_nb_nI (by omega) (by omega) (by omega)
theorem nb_w {x : Int32} {lo hi lo' hi' : Nat} (h : a_nb x lo hi) (h1 : lo' ≤ lo) (h2 : hi ≤ hi') : a_nb x lo' hi' := ⟨h.1, by have := h.2.1; omega, by have := h.2.2; omega⟩
theorem v29n {j : Nat} (h : j < 29) : vp_in (nI j) 29 := vpin ⟨h, by omega⟩
section BD2
variable {L : Nat} {xs : Nat → Int32} {S0 S : vSt} {K : vSt → Prop} {x2 : Int32}
def b_D2 (S0 : vSt) (i : Nat) (S : vSt) : Prop := a_fr b_f4 S0 S ∧ b_H1 (S.1 144) ∧ (∀ p, p < 4 → b_Hp (S.1 144) p) ∧ ∀ d, d < i → b_Hd (S.1 144) d
theorem d_214 {K159 : vSt → Int32 → Int32 → Prop} {i v : Nat} {x4 : Int32} (h : b_D2 S0 i S) (hi : i < 5) (hv : v ≤ 3) (hP : S.1 144 0 ≠ 0 → v < a_n (S.1 144 0)) (hk : ∀ S', b_D2 S0 (i + 1) S' → K159 S' x2 (nI (i + 1))) : p_L_draw_214 L xs K159 K S x2 (nI i) x4 (nI v) (nI (14 + i)) := by
  obtain ⟨f, h1, h2, h3⟩ := h
  unfold p_L_draw_214
  rw [show (19 : Int32) + nI i = nI (19 + i) from nI_add 19 i, show (24 : Int32) + nI i = nI (24 + i) from nI_add 24 i, ncl (by omega), ncl (by omega), ncl (by omega)]
  refine ⟨v29n (by omega), ?_⟩
  rintro _ rfl
  refine ⟨v29n (by omega), ?_⟩
  rintro _ rfl
  refine ⟨v29n (by omega), ?_⟩
  rintro _ rfl _ rfl
  rw [nIs]
  refine hk _ ⟨fr_i (fr_i (fr_i f rfl) rfl) rfl, ?_, fun p hp => ?_, fun d hd => ?_⟩
  · rw [g_set, g_set, g_set]
    exact H1_set (H1_set (H1_set h1 (by omega)) (by omega)) (by omega)
  · rw [g_set, g_set, g_set]
    exact Hp_set (Hp_set (Hp_set (h2 p hp) (by omega) (by omega)) (by omega) (by omega)) (by omega) (by omega)
  · rw [g_set, g_set, g_set]
    rcases (show d < i ∨ d = i by omega) with c | rfl
    · exact Hd_set (Hd_set (Hd_set (h3 d c) (by omega) (by omega) (by omega) (by omega)) (by omega) (by omega) (by omega) (by omega)) (by omega) (by omega) (by omega) (by omega)
    · unfold b_Hd
      rw [a_set_ne (show 14 + d ≠ 24 + d by omega), a_set_ne (show 14 + d ≠ 19 + d by omega), a_set_eq, a_set_ne (show 0 ≠ 24 + d by omega), a_set_ne (show 0 ≠ 19 + d by omega), a_set_ne (show 0 ≠ 14 + d by omega), a_set_ne (show 19 + d ≠ 24 + d by omega), a_set_eq, a_set_eq]
      refine ⟨⟨a_nb_nI (by omega) (by omega) hv, fun w => ?_⟩, ?_, ?_⟩
      · rw [a_n_nI (by omega)]; exact hP w
      · exact nb_w (nb_1 (nb_and _ 7 (by decide) (by omega)) (by omega)) (by omega) (by omega)
      · exact nb_w (nb_rem _ 5 (by decide) (by omega) (d := 17) (by omega) (by omega)) (by omega) (by omega)
theorem d_189 {K159 : vSt → Int32 → Int32 → Prop} {i : Nat} {s0 : Int32} (h : b_D2 S0 i S) (hi : i < 5) (hk : ∀ S', b_D2 S0 (i + 1) S' → K159 S' x2 (nI (i + 1))) : p_L_draw_189 L xs K159 K S x2 (nI i) s0 := by
  obtain ⟨e0, -, q0⟩ := h.2.1.1
  unfold p_L_draw_189
  rw [z0, show (14 : Int32) + nI i = nI (14 + i) from nI_add 14 i]
  refine ⟨v29, fun w => ⟨v29, w, ?_⟩, fun w => d_214 (v := 0) h hi (by omega) (fun q => absurd w q) hk⟩
  have n0 : 0 < a_n (S.1 144 0) := by
    rcases Nat.eq_zero_or_pos (a_n (S.1 144 0)) with q | q
    · rw [q] at e0; exact absurd e0 w
    · exact q
  obtain ⟨j, hj, ej⟩ := pk_andE s0 (m := 3) 2 (by decide)
  rw [ej, e0, pk_rem (by omega) n0 (by omega)]
  have hm := Nat.mod_lt j n0
  exact d_214 h hi (by omega) (fun _ => hm) hk
theorem d_159 (hL : L ≤ 260) (h : b_D2 S0 0 S) (hK : ∀ S', a_fr b_f4 S0 S' → b_H (S'.1 144) → K S') : ∃ fu, p_L_draw_159 L xs K fu S x2 0 := by
  refine v_loop (fun fu i S => p_L_draw_159 L xs K fu S x2 (nI i)) (fun i S => b_D2 S0 i S) 5 (fun fu i S hi h hk => ?_) (fun fu S h => ?_) S h
  · rw [e_L_draw_159]
    refine ⟨fun w => absurd w (nI_ge (b := 5) hi (by omega)), fun _ => ⟨fun _ => d_189 h hi hk, fun w => ⟨?_, d_189 h hi hk⟩⟩⟩
    rw [show nI i + 2 = nI (i + 2) from nI_add i 2] at w ⊢
    exact vpin ⟨Nat.lt_of_not_le (fun q => w (nI_le q (by omega))), by omega⟩
  · rw [e_L_draw_159]
    exact ⟨fun _ => hK S h.1 ⟨h.2.1, h.2.2.1, h.2.2.2⟩, fun w => absurd (Int32.le_refl _) w⟩
def b_D1 (S0 : vSt) (i : Nat) (S : vSt) : Prop := a_fr b_f4 S0 S ∧ b_H1 (S.1 144) ∧ ∀ p, p < i → b_Hp (S.1 144) p
theorem d_122 {K94 : vSt → Int32 → Int32 → Prop} {i : Nat} {s0 : Int32} (h : b_D1 S0 i S) (hi : i < 4) (hk : ∀ S', b_D1 S0 (i + 1) S' → K94 S' x2 (nI (i + 1))) : p_L_draw_122 L xs K94 K S x2 (nI i) s0 := by
  obtain ⟨f, h1, h2⟩ := h
  unfold p_L_draw_122
  rw [show (6 : Int32) + nI i = nI (6 + i) from nI_add 6 i, show (10 : Int32) + nI i = nI (10 + i) from nI_add 10 i, ncl (by omega), ncl (by omega)]
  refine ⟨v29n (by omega), ?_⟩
  rintro _ rfl
  refine ⟨v29n (by omega), ?_⟩
  rintro _ rfl _ rfl
  rw [nIs]
  refine hk _ ⟨fr_i (fr_i f rfl) rfl, ?_, fun p hp => ?_⟩
  · rw [g_set, g_set]
    exact H1_set (H1_set h1 (by omega)) (by omega)
  · rw [g_set, g_set]
    rcases (show p < i ∨ p = i by omega) with c | rfl
    · exact Hp_set (Hp_set (h2 p c) (by omega) (by omega)) (by omega) (by omega)
    · unfold b_Hp
      rw [a_set_ne (show 6 + p ≠ 10 + p by omega), a_set_eq, a_set_eq]
      exact ⟨nb_w (nb_and _ 7 (by decide) (by omega)) (by omega) (by omega), nb_w (nb_rem _ 4 (by decide) (by omega) (d := 9) (by omega) (by omega)) (by omega) (by omega)⟩
theorem d_94 (hL : L ≤ 260) (h : b_D1 S0 0 S) (hK : ∀ S', a_fr b_f4 S0 S' → b_H (S'.1 144) → K S') : ∃ fu, p_L_draw_94 L xs K fu S x2 0 := by
  refine v_loop (fun fu i S => p_L_draw_94 L xs K fu S x2 (nI i)) (fun i S => b_D1 S0 i S) 4 (fun fu i S hi h hk => ?_) (fun fu S h => ?_) S h
  · rw [e_L_draw_94]
    refine ⟨fun w => absurd w (nI_ge (b := 4) hi (by omega)), fun _ => ⟨fun _ => d_122 h hi hk, fun w => ⟨?_, d_122 h hi hk⟩⟩⟩
    rw [nIs] at w ⊢
    exact vpin ⟨Nat.lt_of_not_le (fun q => w (nI_le q (by omega))), by omega⟩
  · rw [e_L_draw_94]
    exact ⟨fun _ => d_159 hL ⟨h.1, h.2.1, h.2.2, fun d hd => absurd hd (by omega)⟩ hK, fun w => absurd (Int32.le_refl _) w⟩
theorem d_45 {s0 : Int32} (hL : L ≤ 260) (f : a_fr b_f4 S0 S) (h0 : a_nb (S.1 144 0) 0 4) (h1 : a_nb s0 0 5) (h2 : S.1 144 0 = 0 → s0 = 0) (hK : ∀ S', a_fr b_f4 S0 S' → b_H (S'.1 144) → K S') : p_L_draw_45 L xs K S x2 s0 := by
  unfold p_L_draw_45
  refine ⟨v29n (j := 1) (by omega), ?_⟩
  rintro _ rfl
  refine ⟨v29n (j := 2) (by omega), ?_⟩
  rintro _ rfl
  refine ⟨v29n (j := 3) (by omega), ?_⟩
  rintro _ rfl
  refine ⟨v29n (j := 4) (by omega), ?_⟩
  rintro _ rfl
  refine ⟨v29n (j := 5) (by omega), ?_⟩
  rintro _ rfl
  refine d_94 hL ⟨fr_i (fr_i (fr_i (fr_i (fr_i f rfl) rfl) rfl) rfl) rfl, ?_, fun p hp => absurd hp (by omega)⟩ hK
  rw [show Int32.toNatClampNeg 1 = 1 from by decide, show Int32.toNatClampNeg 2 = 2 from by decide, show Int32.toNatClampNeg 3 = 3 from by decide, show Int32.toNatClampNeg 4 = 4 from by decide, show Int32.toNatClampNeg 5 = 5 from by decide, g_set, g_set, g_set, g_set, g_set]
  unfold b_H1
  refine ⟨?_, ?_, ?_, ?_, ?_, ?_, ?_⟩
  · rw [a_set_ne (by omega), a_set_ne (by omega), a_set_ne (by omega), a_set_ne (by omega), a_set_ne (by omega)]; exact h0
  · rw [a_set_ne (by omega), a_set_ne (by omega), a_set_ne (by omega), a_set_ne (by omega), a_set_eq]; exact h1
  · rw [a_set_ne (by omega), a_set_ne (by omega), a_set_ne (by omega), a_set_ne (by omega), a_set_ne (by omega), a_set_ne (show 1 ≠ 5 by omega), a_set_ne (show 1 ≠ 4 by omega), a_set_ne (show 1 ≠ 3 by omega), a_set_ne (show 1 ≠ 2 by omega), a_set_eq]; exact h2
  · rw [a_set_ne (by omega), a_set_ne (by omega), a_set_ne (by omega), a_set_eq]
    exact nb_w (nb_1 (nb_rem _ 3 (by decide) (by omega) (d := 5) (by omega) (by omega)) (by omega)) (by omega) (by omega)
  · rw [a_set_ne (by omega), a_set_ne (by omega), a_set_eq]
    exact nb_w (nb_rem _ 3 (by decide) (by omega) (d := 6) (by omega) (by omega)) (by omega) (by omega)
  · rw [a_set_ne (by omega), a_set_eq]
    exact nb_w (nb_and _ 6 (by decide) (by omega)) (by omega) (by omega)
  · rw [a_set_eq]
    exact nb_w (nb_rem _ 5 (by decide) (by omega) (d := 17) (by omega) (by omega)) (by omega) (by omega)
theorem d_14 {s0 : Int32} (hL : L ≤ 260) (hK : ∀ S', a_fr b_f4 S S' → b_H (S'.1 144) → K S') : p_L_draw_14 L xs K S s0 := by
  unfold p_L_draw_14
  refine ⟨v29, ?_⟩
  rintro _ rfl
  rw [z0]
  have e0 : ∀ x, (v_si S 144 0 x).1 144 0 = x := fun x => si_at
  have h0 : a_nb ((v_si S 144 0 ((s0 &&& 7) - (s0 &&& 7) / 5 * 5)).1 144 0) 0 4 := by
    rw [e0]
    exact nb_w (nb_rem _ 3 (by decide) (by omega) (d := 5) (by omega) (by omega)) (by omega) (by omega)
  refine ⟨v29, fun w => ?_, fun w => ?_⟩
  · exact d_45 hL (fr_i fr_r rfl) h0 (nb_w (nb_rem _ 3 (by decide) (by omega) (d := 6) (by omega) (by omega)) (by omega) (by omega)) (fun q => absurd q w) hK
  · exact d_45 hL (fr_i fr_r rfl) h0 (a_nb_nI (n := 0) (by omega) (by omega) (by omega)) (fun _ => rfl) hK
theorem x_drawn (hL : L ≤ 260) (hK : ∀ S', a_fr b_f4 S S' → b_H (S'.1 144) → K S') : p_L_draw L xs S K := by
  unfold p_L_draw
  refine ⟨fun w => ⟨vpin (n := 0) ⟨?_, by omega⟩, d_14 hL hK⟩, fun _ => d_14 hL hK⟩
  rcases Nat.eq_zero_or_pos L with q | q
  · exact absurd (by rw [q]; rfl) w
  · exact q
end BD2
