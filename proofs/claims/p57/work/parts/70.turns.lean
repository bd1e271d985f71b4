/-! THE LAW, from its end on: what a round does -/
section BL
variable {L : Nat} {xs : Nat → Int32} {K91 : vSt → Int32 → Int32 → Int32 → Prop} {S : vSt} {m m1 : Nat → Int32} {x4 x5 x6 x7 : Int32} {c t : Int} {s : Int32}
theorem l_1558 (h : K91 S x4 x5 (x6 + 1)) : p_L_law_1558 L xs K91 () S x4 x5 x6 := by
  unfold p_L_law_1558
  rintro _ rfl
  exact h
theorem l_1517 {x8 x13 : Int32} (T : b_T S m c t s) (h : ∀ S' m', b_T S' m' c t s → a_P m' = a_P m → K91 S' x4 x5 (x6 + 1)) : p_L_law_1517 L xs K91 () S x4 x5 x6 x7 x8 x13 := by
  unfold p_L_law_1517
  exact ⟨fun _ => l_1558 (h S m T rfl), fun _ => ⟨fun _ => l_1558 (h S m T rfl), fun _ => b_commit T (fun r S' m' T' hP => l_1558 (h S' m' T' hP))⟩⟩
theorem l_1492 {x8 x13 : Int32} (T : b_T S m c t s) (h8 : ¬ x8 = 0) (h : ∀ S' m', b_T S' m' c t s → a_P m' = a_P m → K91 S' x4 x5 (x6 + 1)) : p_L_law_1492 L xs K91 () S x4 x5 x6 x7 x8 x13 := by
  unfold p_L_law_1492
  exact ⟨fun _ => l_1517 T h, fun _ => ⟨h8, b_reopen T (fun r S' m' T' hP _ => l_1517 T' (fun S2 m2 T2 hP2 => h S2 m2 T2 (hP2.trans hP)))⟩⟩
theorem l_1430 {x8 x13 x14 : Int32} (M : b_M S m m1) (ok : a_ok m) (hJ : a_J m ≤ 5) (hP : a_P m ≤ 4) (Z : b_Z m (a_P m) c t s) (hc : c + 2000 ≤ 99999) (ht : t + 1000 ≤ 99999) (h8 : ¬ x8 = 0) (h : ∀ S' m', b_T S' m' (c + 2000) (t + 1000) s → a_P m' = a_P m → K91 S' x4 x5 (x6 + 1)) : p_L_law_1430 L xs K91 () S x4 x5 x6 x7 x8 x13 x14 := by
  unfold p_L_law_1430
  refine b_back M ok hJ hP (fun S1 I1 => ⟨fun _ => ⟨fun _ => ?_, fun _ => ?_⟩, fun w => absurd rfl w⟩)
  · obtain ⟨k, hk, ek⟩ := pk_andE (x7 >>> ((5 : Int32) &&& 31)) (m := 31) 5 (by decide)
    rw [ek]
    exact b_drop ⟨I1, Z⟩ (by omega) hc (fun r S2 m2 T2 hP2 _ => l_1492 T2 h8 (fun S3 m3 T3 hP3 => h S3 m3 T3 (hP3.trans hP2)))
  · refine b_many (k := 2) I1 (by omega) (fun S2 I2 => ?_)
    obtain ⟨J1, J2, J3⟩ := ok_J1 ok
    have e : a_fact m 2 = nI (a_J m) := J1
    rw [e]
    refine ⟨?_, b_charge ⟨I2, Z⟩ hc ht (fun r S3 m3 T3 hP3 _ => l_1492 T3 h8 (fun S4 m4 T4 hP4 => h S4 m4 T4 (hP4.trans hP3)))⟩
    rw [nIs]
    exact nI_ne0 (by omega) (by omega)
theorem l_1427 {x8 x13 x14 : Int32} {s0 s1 : Bool} (e : s1 = s0) (h : p_L_law_1430 L xs K91 () S x4 x5 x6 x7 x8 x13 x14) : p_L_law_1427 L xs K91 () S x4 x5 x6 x7 x8 x13 x14 s0 s1 := by
  subst e
  unfold p_L_law_1427
  exact ⟨fun w => absurd rfl w, fun _ => h⟩
theorem l_1410 {x8 x13 x14 : Int32} {v : Nat} {s0 : Bool} (M : b_M S m m1) (hv : v ≤ 9) (e : s0 = decide (a_J m1 < 2 * v)) (h : ∀ S', b_M S' m m1 → p_L_law_1430 L xs K91 () S' x4 x5 x6 x7 x8 x13 x14) : p_L_law_1410 L xs K91 () S x4 x5 x6 x7 x8 x13 x14 (nI v) s0 := by
  unfold p_L_law_1410
  refine b_manyM (k := 2) M (by omega) (fun S2 M2 => ?_)
  obtain ⟨J1, J2, J3⟩ := ok_J1 M.1
  have e2 : a_fact m1 2 = nI (a_J m1) := J1
  rw [e2, show (2 : Int32) * nI v = nI (2 * v) from pk_mul 2 v, nI_leI (by omega) (by omega)]
  refine ⟨fun w => l_1427 ?_ (h S2 M2), fun w => l_1427 ?_ (h S2 M2)⟩
  · rw [e, decide_eq_false (by omega)]
  · rw [e, decide_eq_true (by omega)]
theorem l_heard {x8 : Int32} {p e v : Nat} (M : b_M S m (a_hear m p e v)) (ok : a_ok m) (hp : p < a_P m) (he : e < a_D m) (hv : v ≤ 9) (cn : a_can m p e = true) (h : ∀ S', b_M S' m (a_hear m p e v) → p_L_law_1430 L xs K91 () S' x4 x5 x6 x7 x8 (nI p) (nI e)) : p_L_law_1344 L xs K91 () S x4 x5 x6 x7 x8 (b_op m) (nI p) (nI e) (nI v) true := by
  have h8 := ok_P8 ok
  have h10 := ok_D10 ok
  have ho := (ok_o ok he).2
  have hD : a_D (a_hear m p e v) = a_D m := hear_PD.2
  have hJ : a_J (a_hear m p e v) = a_J m := by
    unfold a_J
    rw [hear_ne (by omega) (by omega) (by omega) (by omega) (by omega) (by omega) (by omega) (by omega) (by omega)]
  obtain ⟨q1, q2, q3⟩ := hear_78 (v := v) ok hp he
  have n78 : a_hear m p e v (78 + e) ≠ 0 := by rw [q1]; split <;> decide
  have op : m (78 + e) = 0 := by
    unfold a_can at cn
    simp only [Bool.and_eq_true, decide_eq_true_eq] at cn
    exact cn.1.1.1
  have e5 : a_hear m p e v (48 + 10 * 5 + e) = nI v := by rw [show 48 + 10 * 5 + e = 98 + e by omega]; exact q3
  have e4 : a_hear m p e v (48 + 10 * 4 + e) = nI p := by rw [show 48 + 10 * 4 + e = 88 + e by omega]; exact q2
  have e3 : a_hear m p e v (48 + 10 * 3 + e) = if a_J m < 2 * v then 1 else 2 := by rw [show 48 + 10 * 3 + e = 78 + e by omega]; exact q1
  unfold p_L_law_1344
  refine ⟨fun w => absurd ((op_bit ok he).mpr op) w, fun _ => ?_⟩
  refine b_deedM (k := 5) M (by rw [hD]; exact he) (by omega) (fun _ S1 M1 => ⟨fun w => absurd e5 w, fun _ => ?_⟩) (fun w => absurd (Or.inr n78) w)
  refine b_deedM (k := 4) M1 (by rw [hD]; exact he) (by omega) (fun _ S2 M2 => ⟨fun w => absurd e4 w, fun _ => ?_⟩) (fun w => absurd (Or.inr n78) w)
  unfold p_L_law_1384
  refine ⟨fun _ => ⟨fun w => absurd w (nI_pos (by omega)), fun _ => ?_⟩, fun w => absurd rfl w⟩
  refine b_deedM (k := 3) M2 (by rw [hD]; exact he) (by omega) (fun _ S3 M3 => ?_) (fun w => absurd (Or.inl (by omega)) w)
  rw [e3]
  by_cases q : a_J m < 2 * v
  · rw [if_pos q]
    exact ⟨fun w => absurd rfl w, fun _ => l_1410 M3 hv (by rw [hJ, decide_eq_true q]) h⟩
  · rw [if_neg q]
    exact ⟨fun _ => l_1410 M3 hv (by rw [hJ, decide_eq_false q]) h, fun w => absurd w (by decide)⟩
theorem l_unheard {x8 : Int32} {p e : Nat} (M : b_M S m m) (ok : a_ok m) (hp : p < a_P m) (he : e < a_D m) (h : ∀ S', b_M S' m m → p_L_law_1430 L xs K91 () S' x4 x5 x6 x7 x8 (nI p) (nI e)) : p_L_law_1344 L xs K91 () S x4 x5 x6 x7 x8 (b_op m) (nI p) (nI e) (-1) false := by
  have h8 := ok_P8 ok
  have h10 := ok_D10 ok
  have k83 : ∀ S', b_M S' m m → p_L_law_1383 L xs K91 () S' x4 x5 x6 x7 x8 (nI p) (nI e) (-1) false := fun S' M' => by
    unfold p_L_law_1383 p_L_law_1384
    exact ⟨fun _ => ⟨fun _ => h S' M', fun w => absurd (by decide) w⟩, fun w => absurd rfl w⟩
  unfold p_L_law_1344
  refine ⟨fun _ => k83 S M, fun w => ?_⟩
  have op := (op_bit ok he).mp w
  refine b_deedM (k := 5) M he (by omega) (fun w => absurd op (by rcases w with w | w; omega; exact w)) (fun _ S1 M1 => ⟨fun w => absurd rfl w, fun _ => ?_⟩)
  refine b_deedM (k := 4) M1 he (by omega) (fun w => absurd op (by rcases w with w | w; omega; exact w)) (fun _ S2 M2 => ⟨fun _ => k83 S2 M2, fun w => absurd w.symm (nI_nm1 (p := p) (by omega)).1⟩)
theorem l_1276 (I : b_I S m) (Z : b_Z m (a_P m) c t s) (hc : c + 2000 ≤ 99999) (ht : t + 1000 ≤ 99999) (h : ∀ S' m', b_T S' m' (c + 2000) (t + 1000) s → a_P m' = a_P m → K91 S' x4 x5 (x6 + 1)) : p_L_law_1276 L xs K91 () S x4 x5 x6 x7 (nI (a_D m)) (b_op m) := by
  obtain ⟨ok, R, hP, hD, hJ⟩ := I_ok I
  unfold p_L_law_1276
  rw [z0, I.2.2.1]
  refine ⟨fun h8 => ?_, fun _ => l_1558 (h S m ⟨I, Z_w Z (by omega) (by omega)⟩ rfl)⟩
  have D0 : 0 < a_D m := by
    rcases Nat.eq_zero_or_pos (a_D m) with q | q
    · exact absurd (by rw [q]; rfl) h8
    · exact q
  have P0 : 0 < a_P m := (ok_d ok D0).1.2
  refine ⟨v29, nI_ne0 P0 (by omega), ?_⟩
  obtain ⟨k, hk, ek⟩ := pk_andE x7 (m := 3) 2 (by decide)
  obtain ⟨k2, hk2, ek2⟩ := pk_andE (x7 >>> ((2 : Int32) &&& 31)) (m := 15) 4 (by decide)
  rw [ek, ek2, pk_rem (by omega) P0 (by omega), pk_rem (by omega) D0 (by omega)]
  rintro _ rfl
  refine ⟨h8, ?_⟩
  rintro _ rfl
  have hp : k % a_P m < a_P m := Nat.mod_lt _ P0
  have he : k2 % a_D m < a_D m := Nat.mod_lt _ D0
  refine b_mark I (fun S1 M1 => ⟨fun _ => ?_, fun w => absurd rfl w⟩)
  obtain ⟨sd, hsd, esd⟩ := pk_andE (x7 >>> ((1 : Int32) &&& 31)) (m := 4095) 12 (by decide)
  rw [esd]
  refine b_hear M1 hp he (by omega) (fun _ S2 M2 => ⟨fun _ => ?_, fun w => absurd (by decide) w⟩) (fun v hv cn S2 M2 => ⟨fun w => absurd w (nI_pos (by omega)), fun _ => ?_⟩)
  · exact l_unheard M2 ok hp he (fun S3 M3 => l_1430 M3 ok hJ hP Z hc ht h8 h)
  · exact l_heard M2 ok hp he hv cn (fun S3 M3 => l_1430 M3 ok hJ hP Z hc ht h8 h)
end BL
