/-! simple steps of a run -/
theorem hear_wd {m : Nat → Int32} {p d v : Nat} (ok : a_ok m) (hp : p < a_P m) (hd : d < a_D m) : a_hear m p d v (24 + p) = (if a_out m v = 1 then m (24 + p) + 1 else m (24 + p)) ∧ a_hear m p d v (32 + p) = (if a_out m v = 2 then m (32 + p) + 1 else m (32 + p)) := by
  have h8 := ok_P8 ok
  have h10 := ok_D10 ok
  have ho := (ok_o ok hd).2
  unfold a_hear a_out
  by_cases c1 : a_J m < 2 * v
  · rw [if_pos c1, if_pos c1, if_pos rfl, if_neg (by omega)]
    unfold a_hw
    refine ⟨?_, ?_⟩
    · rw [pays_ne (by omega), pays_ne (by omega), pays_ne (by omega)]
      unfold a_inc
      rw [a_set_eq, hd_ne (by omega) (by omega) (by omega) (by omega)]
    · rw [pays_ne (by omega), pays_ne (by omega), pays_ne (by omega), inc_ne (by omega), hd_ne (by omega) (by omega) (by omega) (by omega)]
  · rw [if_neg c1, if_neg c1]
    by_cases c2 : v < a_F m
    · rw [if_pos c2, if_pos c2, if_neg (by omega), if_pos rfl]
      unfold a_ho
      refine ⟨?_, ?_⟩
      · rw [pays_ne (by omega), pays_ne (by omega), inc_ne (by omega), hd_ne (by omega) (by omega) (by omega) (by omega)]
      · rw [pays_ne (by omega), pays_ne (by omega)]
        unfold a_inc
        rw [a_set_eq, hd_ne (by omega) (by omega) (by omega) (by omega)]
    · rw [if_neg c2, if_neg c2, if_neg (by omega), if_neg (by omega)]
      exact ⟨hd_ne (by omega) (by omega) (by omega) (by omega), hd_ne (by omega) (by omega) (by omega) (by omega)⟩
theorem i32_up (x y : Int32) : x + (y + 1 - y) = x + 1 := by
  have : y + 1 - y = 1 := by rw [Int32.add_comm, Int32.add_sub_cancel]
  rw [this]
theorem i32_no (x y : Int32) : x + (y - y) = x := by rw [Int32.sub_self, Int32.add_zero]
theorem UM_st {S : vSt} {ρ : aU} {i : Nat} {x : Int32} (u : a_UM S ρ) : a_UM (v_si S 143 (36 + i) x) (ρ.1, ρ.2.1, ρ.2.2.1, a_set ρ.2.2.2.1 i x, ρ.2.2.2.2) := by
  obtain ⟨u1, u2, u3, u4, u5⟩ := u
  refine ⟨fun j hj => ?_, ?_, ?_, fun q hq => ?_, ?_⟩
  · rw [si1, if_neg (by omega)]; exact u1 j hj
  · rw [si1, if_neg (by omega)]; exact u2
  · rw [si1, if_neg (by omega)]; exact u3
  · rw [si1]
    show _ = a_set ρ.2.2.2.1 i x q
    unfold a_set
    by_cases e : q = i
    · rw [if_pos ⟨rfl, by omega⟩, if_pos e]
    · rw [if_neg (fun w => e (by omega)), if_neg e]; exact u4 q hq
  · rw [si1, if_neg (by omega)]; exact u5
theorem UM_cm {S S' : vSt} {ρ : aU} {m' : Nat → Int32} (u : a_UM S ρ) (f : a_fr a_cm S S') (M : a_M S' 0 m') : a_UM S' (m', ρ.2) := by
  obtain ⟨u1, u2, u3, u4, u5⟩ := u
  exact ⟨M, (f 143 26 rfl).1.trans u2, (f 143 35 rfl).1.trans u3, fun i hi => (f 143 _ (decide_eq_false (by omega))).1.trans (u4 i hi), (f 143 34 rfl).1.trans u5⟩
theorem UM_fm2 {S S' : vSt} {ρ : aU} {s' : Nat} (u : a_UM S ρ) (f : a_fr a_fm2 S S') (h : S'.1 143 26 = nI s') : a_UM S' (ρ.1, s', ρ.2.2) := by
  obtain ⟨u1, u2, u3, u4, u5⟩ := u
  exact ⟨M_fm2 u1 f, h, (f 143 35 rfl).1.trans u3, fun i hi => (f 143 _ (decide_eq_false (by omega))).1.trans (u4 i hi), (f 143 34 rfl).1.trans u5⟩
theorem m_acc {p d : Nat} {S : vSt} {m0 : Nat → Int32} {ρ : aU} {K : Bool → vSt → Prop} (ok : a_oku m0 ρ) (hp : p < a_P ρ.1) (hd : d < a_D ρ.1) (u : a_UM S ρ) (h0 : a_can ρ.1 p d = false → K false S) (h1 : a_can ρ.1 p d = true → ∀ S', a_fr a_um S S' → a_UM S' (o_acc ρ p d) → S'.1 143 36 = S.1 143 36 → K true S') : p_X11_isCharged S (nI p) (nI d) K := by
  obtain ⟨okm, hs, -⟩ := ok
  have h8 := ok_P8 okm
  unfold p_X11_isCharged
  rw [m_canCharge okm u.1 hp hd]
  unfold o_acc at h1
  cases c : a_can ρ.1 p d
  · simp only [eq_self, reduceCtorEq, true_implies, false_implies, and_true, true_and, not_true_eq_false, not_false_eq_true]
    exact h0 c
  · rw [c, if_pos rfl] at h1
    have h1 := h1 rfl
    simp only [eq_self, reduceCtorEq, true_implies, false_implies, and_true, true_and, not_true_eq_false, not_false_eq_true]
    rw [show (24 : Int32) + nI p = nI (24 + p) from nI_add 24 p, show (32 : Int32) + nI p = nI (32 + p) from nI_add 32 p, ncl (by omega), ncl (by omega)]
    refine ⟨vpin ⟨by omega, by omega⟩, ?_⟩
    rintro _ rfl
    refine ⟨vpin ⟨by omega, by omega⟩, ?_⟩
    rintro _ rfl
    refine m_voted okm u.1 hp hd hs u.2.1 (fun S1 f1 e1 => ?_)
    have u1 := UM_fm2 u f1 e1
    have v9 := (jr_lt (c := a_c ρ.1 p d) hs (a_J ρ.1)).2
    have J9 := (ok_J1 okm).2.2
    generalize (a_jr ρ.2.1 (a_c ρ.1 p d) (a_J ρ.1)).2 = v at h1 v9 u1
    generalize (a_jr ρ.2.1 (a_c ρ.1 p d) (a_J ρ.1)).1 = s1 at h1 u1
    refine m_hears okm u1.1 hp hd (by omega) (fun S2 f2 M2 => ?_)
    have u2 := UM_cm u1 f2 M2
    obtain ⟨w1, w2⟩ := hear_wd (v := v) okm hp hd
    rintro _ rfl
    refine ⟨vpin ⟨by omega, by omega⟩, ?_⟩
    rintro _ rfl
    refine ⟨vpin ⟨by omega, by omega⟩, ?_⟩
    rintro _ rfl
    have a24 : S.1 148 (24 + p) = ρ.1 (24 + p) := M_0 u.1 (by omega)
    have a32 : S.1 148 (32 + p) = ρ.1 (32 + p) := M_0 u.1 (by omega)
    have b24 : ∀ x y, (v_si (v_si S2 143 37 x) 143 38 y).1 148 (24 + p) = a_hear ρ.1 p d v (24 + p) := fun x y => M_0 M2 (by omega)
    have b24' : ∀ x, (v_si S2 143 37 x).1 148 (24 + p) = a_hear ρ.1 p d v (24 + p) := fun x => M_0 M2 (by omega)
    have b32 : ∀ x y, (v_si (v_si S2 143 37 x) 143 38 y).1 148 (32 + p) = a_hear ρ.1 p d v (32 + p) := fun x y => M_0 M2 (by omega)
    have g37 : S2.1 143 37 = ρ.2.2.2.1 1 := u2.2.2.2.1 1 (by omega)
    have g38 : ∀ x, (v_si S2 143 37 x).1 143 38 = ρ.2.2.2.1 2 := fun x => u2.2.2.2.1 2 (by omega)
    have g39 : ∀ x y, (v_si (v_si S2 143 37 x) 143 38 y).1 143 39 = ρ.2.2.2.1 3 := fun x y => u2.2.2.2.1 3 (by omega)
    rw [b24', b32, g37, g38, g39, a24, a32, w1, w2]
    have u3 := UM_st (i := 1) (x := ρ.2.2.2.1 1 + 1) u2
    have fin : ∀ x y F', a_set (a_set (a_set ρ.2.2.2.1 1 (ρ.2.2.2.1 1 + 1)) 2 x) 3 y = F' → (∀ S', a_fr a_um S S' → a_UM S' (a_hear ρ.1 p d v, s1, ρ.2.2.1, F', ρ.2.2.2.2) → S'.1 143 36 = S.1 143 36 → K true S') → K true (v_si (v_si (v_si S2 143 37 (ρ.2.2.2.1 1 + 1)) 143 38 x) 143 39 y) := by
      intro x y F' e hh
      subst e
      refine hh _ (fr_i (fr_i (fr_i (fr_t (fr_w f1 fm2_um) (fr_w f2 cm_um)) rfl) rfl) rfl) (UM_st (i := 3) (UM_st (i := 2) u3)) ?_
      exact (f2 143 36 rfl).1.trans (f1 143 36 rfl).1
    have id2 : ∀ F : Nat → Int32, a_set F 2 (F 2) = F := fun F => by
      funext q
      unfold a_set
      by_cases e : q = 2
      · rw [if_pos e, e]
      · rw [if_neg e]
    have id3 : ∀ F : Nat → Int32, a_set F 3 (F 3) = F := fun F => by
      funext q
      unfold a_set
      by_cases e : q = 3
      · rw [if_pos e, e]
      · rw [if_neg e]
    have F2 : a_set ρ.2.2.2.1 1 (ρ.2.2.2.1 1 + 1) = a_inc ρ.2.2.2.1 1 := rfl
    have F22 : ρ.2.2.2.1 2 = a_inc ρ.2.2.2.1 1 2 := (inc_ne (by omega)).symm
    have F23 : ρ.2.2.2.1 3 = a_inc ρ.2.2.2.1 1 3 := (inc_ne (by omega)).symm
    rcases out_3 ρ.1 v with o | o | o
    · rw [o] at h1 ⊢
      simp only [show ¬ (0 : Nat) = 1 from by omega, show ¬ (0 : Nat) = 2 from by omega, if_false] at h1 ⊢
      rw [i32_no, i32_no]
      refine fin _ _ _ ?_ h1
      rw [F2, F22, id2, F23, id3]
    · rw [o] at h1 ⊢
      simp only [show ¬ (1 : Nat) = 2 from by omega, if_false, if_true] at h1 ⊢
      rw [i32_no, i32_up]
      refine fin _ _ _ ?_ h1
      rw [F2, F22]
      have : a_set (a_inc ρ.2.2.2.1 1) 2 (a_inc ρ.2.2.2.1 1 2 + 1) = a_inc (a_inc ρ.2.2.2.1 1) 2 := rfl
      rw [this, show ρ.2.2.2.1 3 = a_inc (a_inc ρ.2.2.2.1 1) 2 3 from by rw [inc_ne (by omega), inc_ne (by omega)], id3]
    · rw [o] at h1 ⊢
      simp only [show ¬ (2 : Nat) = 1 from by omega, if_false, if_true] at h1 ⊢
      rw [i32_no, i32_up]
      refine fin _ _ _ ?_ h1
      rw [F2, F22, id2, F23]
      rfl
