/-! simple steps of a run -/
theorem hear_wd {m : Nat → Int32} {p d v : Nat} (ok : a_ok m) (hp : p < a_P m) (hd : d < a_D m) : a_hear m p d v (24 + p) = (if a_out m v = 1 then m (24 + p) + 1 else m (24 + p)) ∧ a_hear m p d v (32 + p) = (if a_out m v = 2 then m (32 + p) + 1 else m (32 + p)) := by
  have h8 := ok_P8 ok
  have h10 := ok_D10 ok
  have ho := (ok_o ok hd).2
  unfold a_hear a_out
  by_cases c1 : a_J m < 2 * v
  · rw [if_pos c1, if_pos c1, if_pos rfl, if_neg (by omega)]
    unfold a_hw
    refine ⟨?_, ?_⟩
    · rw [pays_ne (by omega), pays_ne (by omega), pays_ne (by omega)]
      unfold a_inc
      rw [a_set_eq, hd_ne (by omega) (by omega) (by omega) (by omega)]
    · rw [pays_ne (by omega), pays_ne (by omega), pays_ne (by omega), inc_ne (by omega), hd_ne (by omega) (by omega) (by omega) (by omega)]
  · rw [if_neg c1, if_neg c1]
    by_cases c2 : v < a_F m
    · rw [if_pos c2, if_pos c2, if_neg (by omega), if_pos rfl]
      unfold a_ho
      refine ⟨?_, ?_⟩
      · rw [pays_ne (by omega), pays_ne (by omega), inc_ne (by omega), hd_ne (by omega) (by omega) (by omega) (by omega)]
      · rw [pays_ne (by omega), pays_ne (by omega)]
        unfold a_inc
        rw [a_set_eq, hd_ne (by omega) (by omega) (by omega) (by omega)]
    · rw [if_neg c2, if_neg c2, if_neg (by omega), if_neg (by omega)]
      exact ⟨hd_ne (by omega) (by omega) (by omega) (by omega), hd_ne (by omega) (by omega) (by omega) (by omega)⟩
theorem i32_up (x y : Int32) : x + (y + 1 - y) = x + 1 := by
  have : y + 1 - y = 1 := by rw [Int32.add_comm, Int32.add_sub_cancel]
  rw [this]
theorem i32_no (x y : Int32) : x + (y - y) = x := by rw [Int32.sub_self, Int32.add_zero]
theorem UM_st {S : vSt} {ρ : aU} {i : Nat} {x : Int32} (u : a_UM S ρ) : a_UM (v_si S 143 (36 + i) x) (ρ.1, ρ.2.1, ρ.2.2.1, a_set ρ.2.2.2.1 i x, ρ.2.2.2.2) := by
  obtain ⟨u1, u2, u3, u4, u5⟩ := u
  refine ⟨fun j hj => ?_, ?_, ?_, fun q hq => ?_, ?_⟩
  · rw [si1, if_neg (by omega)]; exact u1 j hj
  · rw [si1, if_neg (by omega)]; exact u2
  · rw [si1, if_neg (by omega)]; exact u3
  · rw [si1]
    show _ = a_set ρ.2.2.2.1 i x q
    unfold a_set
    by_cases e : q = i
    · rw [if_pos ⟨rfl, by omega⟩, if_pos e]
    · rw [if_neg (fun w => e (by omega)), if_neg e]; exact u4 q hq
  · rw [si1, if_neg (by omega)]; exact u5
theorem UM_cm {S S' : vSt} {ρ : aU} {m' : Nat → Int32} (u : a_UM S ρ) (f : a_fr a_cm S S') (M : a_M S' 0 m') : a_UM S' (m', ρ.2) := by
  obtain ⟨u1, u2, u3, u4, u5⟩ := u
  exact ⟨M, (f 143 26 rfl).1.trans u2, (f 143 35 rfl).1.trans u3, fun i hi => (f 143 _ (decide_eq_false (by omega))).1.trans (u4 i hi), (f 143 34 rfl).1.trans u5⟩
theorem UM_fm2 {S S' : vSt} {ρ : aU} {s' : Nat} (u : a_UM S ρ) (f : a_fr a_fm2 S S') (h : S'.1 143 26 = nI s') : a_UM S' (ρ.1, s', ρ.2.2) := by
  obtain ⟨u1, u2, u3, u4, u5⟩ := u
  exact ⟨M_fm2 u1 f, h, (f 143 35 rfl).1.trans u3, fun i hi => (f 143 _ (decide_eq_false (by omega))).1.trans (u4 i hi), (f 143 34 rfl).1.trans u5⟩