/-! gained, sure, bound -/
theorem G_le {m : Nat → Int32} : ∀ (l : List Nat) (x : Int) (r w : Nat), (a_G m l x r w).1 ≤ 3 ^ l.length * 2 ^ r
  | [], x, r, w => by
    have := pay_le (L := a_L m) r (-x)
    show a_pay (a_L m) (-x) r ≤ 3 ^ 0 * 2 ^ r
    omega
  | d :: l, x, r, w => by
    have h1 := G_le (m := m) l x (r + 1) w
    have h2 := G_le (m := m) l (x - a_part m d) r (w ||| 2 ^ d)
    show (a_G m l x (r + 1) w).1 + (a_G m l (x - a_part m d) r (w ||| 2 ^ d)).1 ≤ 3 ^ (l.length + 1) * 2 ^ r
    have e1 : 3 ^ l.length * 2 ^ (r + 1) = 2 * (3 ^ l.length * 2 ^ r) := by rw [Nat.pow_succ, ← Nat.mul_assoc, Nat.mul_comm _ 2]
    have e2 : 3 ^ (l.length + 1) * 2 ^ r = 3 * (3 ^ l.length * 2 ^ r) := by rw [Nat.pow_succ, Nat.mul_comm _ 3, Nat.mul_assoc]
    omega
theorem G_31 {m : Nat → Int32} (ok : a_ok m) (p : Nat) (x : Int) : (a_G m (a_ot m p) x 0 0).1 < 2 ^ 30 := by
  have h := G_le (m := m) (a_ot m p) x 0 0
  have h2 : 3 ^ (a_ot m p).length ≤ 3 ^ 10 := Nat.pow_le_pow_right (by omega) (ot_len ok p)
  omega
theorem va_lt {u v : Nat × Nat} {D : Nat} (h1 : u.1 ≠ 0 → u.2 < 2 ^ D) (h2 : v.1 ≠ 0 → v.2 < 2 ^ D) (h : (a_va u v).1 ≠ 0) : (a_va u v).2 < 2 ^ D := by
  have h : u.1 + v.1 ≠ 0 := h
  show u.2 &&& v.2 < 2 ^ D
  by_cases c : u.1 = 0
  · exact Nat.and_lt_two_pow _ (h2 (by omega))
  · exact Nat.lt_of_le_of_lt Nat.and_le_left (h1 c)
theorem G_lt {m : Nat → Int32} {D : Nat} : ∀ (l : List Nat) (x : Int) (r w : Nat), w < 2 ^ D → (∀ d, d ∈ l → d < D) → (a_G m l x r w).1 ≠ 0 → (a_G m l x r w).2 < 2 ^ D
  | [], x, r, w, hw, _, h => by
    show (if a_pay (a_L m) (-x) r = 0 then 1023 else w) < 2 ^ D
    rw [if_neg (show ¬ a_pay (a_L m) (-x) r = 0 from h)]
    exact hw
  | d :: l, x, r, w, hw, hl, h => by
    have hl' : ∀ e, e ∈ l → e < D := fun e he => hl e (List.mem_cons_of_mem _ he)
    have hd := hl d (List.mem_cons_self ..)
    refine va_lt (fun q => G_lt l x (r + 1) w hw hl' q) (fun q => G_lt l _ r _ (Nat.or_lt_two_pow hw (Nat.pow_lt_pow_right (by omega) hd)) hl' q) h
theorem m_waysFrom {m : Nat → Int32} {p : Nat} (ok : a_ok m) (hp : p < a_P m) : ∀ (k fu d : Nat) (x : Int) (w : Nat) (S : vSt) (K : Int32 → vSt → Prop), d + k = a_D m → -(9999 + 999 * (d : Int)) ≤ x → x ≤ 9999 + 999 * (d : Int) → w < 1024 → a_M S 0 m → (∀ S', a_fr a_sm S S' → (∀ acc, acc < 1024 → S.1 143 31 = nI acc → S'.1 143 31 = nI (acc &&& (a_G m (a_ol m p k d) x 0 w).2)) → K (nI (a_G m (a_ol m p k d) x 0 w).1) S') → p_X11_waysFrom (k + 1 + fu) S (nI p) (nI d) (iI x) (nI w) K
  | 0, fu, d, x, w, S, K, hd, h1, h2, hw, M, h => by
    have h10 := ok_D10 ok
    rw [show 0 + 1 + fu = fu + 1 by omega]
    show pb_X11_waysFrom (p_X11_waysFrom fu) S (nI p) (nI d) (iI x) (nI w) K
    unfold pb_X11_waysFrom
    have e : d = a_D m := by omega
    subst e
    have fx : a_fi x := by unfold a_fi; omega
    have x0 : iI x = 0 ↔ x = 0 := iI_eq fx fi_0
    simp (disch := omega) only [ia8, ia16, ia24, ia32, ia40, ia48, ia58, ia68, ia78, ia88, ia98, ncl, vpt, c0, c1, c2, c3, c4, c5, c6, c7, k0, k1, k2, k3, k4, k5, k6, k7, M_0 M, ok_m1 ok, eq_self, reduceCtorEq, true_implies, false_implies, and_true, true_and, not_true_eq_false, not_false_eq_true, x0]
    by_cases c : x = 0
    · simp only [c, eq_self, reduceCtorEq, true_implies, false_implies, and_true, true_and, not_true_eq_false, not_false_eq_true, forall_eq]
      have eG : a_G m (a_ol m p 0 (a_D m)) x 0 w = (1, w) := by
        show a_pw (a_L m) (-x) 0 w = (1, w)
        have e1 : a_pay (a_L m) (-x) 0 = 1 := if_pos (by omega)
        unfold a_pw
        rw [e1, if_neg (by omega)]
      rw [eG] at h
      refine h _ (fr_i fr_r rfl) (fun acc ha q => ?_)
      rw [si_at, q, nI_and]
    · simp only [c, eq_self, reduceCtorEq, true_implies, false_implies, and_true, true_and, not_true_eq_false, not_false_eq_true]
      have eG : a_G m (a_ol m p 0 (a_D m)) x 0 w = (0, 1023) := by
        show a_pw (a_L m) (-x) 0 w = (0, 1023)
        have e1 : a_pay (a_L m) (-x) 0 = 0 := if_neg (by omega)
        unfold a_pw
        rw [e1, if_pos rfl]
      rw [eG] at h
      refine h S fr_r (fun acc ha q => ?_)
      rw [q]
      show nI acc = nI (acc &&& 1023)
      rw [and_1023 ha]
  | k + 1, fu, d, x, w, S, K, hd, h1, h2, hw, M, h => by
    have h10 := ok_D10 ok
    have hD : d < a_D m := by omega
    have hpt := sum_part ok hD
    obtain ⟨eL, L9⟩ := ok_L1 ok
    rw [show k + 1 + 1 + fu = (k + 1 + fu) + 1 by omega]
    show pb_X11_waysFrom (p_X11_waysFrom (k + 1 + fu)) S (nI p) (nI d) (iI x) (nI w) K
    have ih := m_waysFrom ok hp k fu
    unfold pb_X11_waysFrom
    have n1 : ¬ nI d = nI (a_D m) := fun q => by
      have := (nI_eq (by omega) (by omega)).mp q
      omega
    simp (disch := omega) only [ia8, ia16, ia24, ia32, ia40, ia48, ia58, ia68, ia78, ia88, ia98, ncl, vpt, c0, c1, c2, c3, c4, c5, c6, c7, k0, k1, k2, k3, k4, k5, k6, k7, M_0 M, ok_m1 ok, n1, eq_self, reduceCtorEq, true_implies, false_implies, and_true, true_and, not_true_eq_false, not_false_eq_true]
    have eo : a_ol m p (k + 1) d = if m (48 + d) = nI p then a_ol m p k (d + 1) else d :: a_ol m p k (d + 1) := rfl
    by_cases c : m (48 + d) = nI p
    · rw [if_pos c] at eo
      rw [eo] at h
      simp only [c, eq_self, reduceCtorEq, true_implies, false_implies, and_true, true_and, not_true_eq_false, not_false_eq_true, nIs]
      exact ih (d + 1) x w S _ (by omega) (by omega) (by omega) hw M h
    · rw [if_neg c] at eo
      rw [eo] at h
      simp only [c, eq_self, reduceCtorEq, true_implies, false_implies, and_true, true_and, not_true_eq_false, not_false_eq_true, nIs]
      have l10 : ∀ e, e ∈ a_ol m p k (d + 1) → e < 10 := fun e he => by
        have := (ol_lt _ _ _ he).2
        omega
      have eV : a_G m (d :: a_ol m p k (d + 1)) x 0 w = a_va (a_va (a_G m (a_ol m p k (d + 1)) x 0 w) (a_G m (a_ol m p k (d + 1)) (x + a_L m) 0 w)) (a_G m (a_ol m p k (d + 1)) (x - a_part m d) 0 (w ||| 2 ^ d)) := by
        rw [← G_s _ _ _ _ hw l10]
        rfl
      rw [eV] at h
      refine ih (d + 1) x w S _ (by omega) (by omega) (by omega) hw M (fun S1 f1 a1 => ?_)
      have M1 := M_m M f1
      rw [m_part ok M1 hD, nI_iI (a_part m d), iI_sub, bit_1 d (by omega), bit_or w hw d (by omega)]
      refine ih (d + 1) _ _ S1 _ (by omega) (by omega) (by omega) (or_10 hw (by omega)) M1 (fun S2 f2 a2 => ?_)
      have M2 := M_m M1 f2
      simp (disch := omega) only [ia8, ia16, ia24, ia32, ia40, ia48, ia58, ia68, ia78, ia88, ia98, ncl, vpt, c0, c1, c2, c3, c4, c5, c6, c7, k0, k1, k2, k3, k4, k5, k6, k7, M_0 M2, eL]
      rw [nI_iI (a_L m), iI_add]
      refine ih (d + 1) _ _ S2 _ (by omega) (by omega) (by omega) hw M2 (fun S3 f3 a3 => ?_)
      rw [nI_add, nI_add]
      have h := h S3 (fr_t f1 (fr_t f2 f3))
      unfold a_va at h
      rw [show (a_G m (a_ol m p k (d + 1)) x 0 w).1 + (a_G m (a_ol m p k (d + 1)) (x - a_part m d) 0 (w ||| 2 ^ d)).1 + (a_G m (a_ol m p k (d + 1)) (x + a_L m) 0 w).1 = (a_G m (a_ol m p k (d + 1)) x 0 w).1 + (a_G m (a_ol m p k (d + 1)) (x + a_L m) 0 w).1 + (a_G m (a_ol m p k (d + 1)) (x - a_part m d) 0 (w ||| 2 ^ d)).1 by omega]
      refine h (fun acc ha q => ?_)
      have b1 := a1 acc ha q
      have c1 := Nat.lt_of_le_of_lt (Nat.and_le_left (n := acc) (m := (a_G m (a_ol m p k (d + 1)) x 0 w).2)) ha
      have b2 := a2 _ c1 b1
      have c2 := Nat.lt_of_le_of_lt (Nat.and_le_left (n := acc &&& (a_G m (a_ol m p k (d + 1)) x 0 w).2) (m := (a_G m (a_ol m p k (d + 1)) (x - a_part m d) 0 (w ||| 2 ^ d)).2)) c1
      rw [a3 _ c2 b2]
      congr 1
      simp only [Nat.and_assoc]
      rw [Nat.and_comm (a_G m (a_ol m p k (d + 1)) (x - a_part m d) 0 (w ||| 2 ^ d)).2]
def a_pst (m : Nat → Int32) (x y : Int32) : Int32 := if a_one m x = true then (if a_in (-9999) 9999 y = true then 0 else 5) else 2
theorem x_pastStatus {S : vSt} {m : Nat → Int32} {x y : Int32} {K : Int32 → vSt → Prop} (R : a_R S 10 m) : p_X10_pastStatus S x y K = K (a_pst m x y) S := by
  unfold p_X10_pastStatus a_pst
  rw [e_hasPerson R, gd2]
  cases a_one m x <;> simp only [Bool.false_eq_true, if_true, if_false, eq_self, reduceCtorEq, true_implies, false_implies, and_true, true_and, not_true_eq_false, not_false_eq_true]
  split <;> rfl
theorem m_whyNotGained {S : vSt} {m : Nat → Int32} {x y : Int32} {K : Int32 → vSt → Prop} (ok : a_ok m) (M : a_M S 0 m) : p_X11_whyNotGained S x y K = K (a_pst m x y) S := by
  unfold p_X11_whyNotGained a_pst
  rw [e_isOne ok M, e_min (lo := -9999) (hi := 9999) (L := -9999) (H := 9999) (by decide) (by decide)]
  cases a_one m x <;> cases a_in (-9999) 9999 y <;> simp only [Bool.false_eq_true, if_true, if_false, eq_self, reduceCtorEq, true_implies, false_implies, and_true, true_and, not_true_eq_false, not_false_eq_true]
theorem in_rg {x lo hi : Int32} {a b : Int} (ha : lo.toInt = a) (hb : hi.toInt = b) (g : a_in lo hi x = true) : a ≤ x.toInt ∧ x.toInt ≤ b := by
  have h := of_decide_eq_true g
  rw [Int32.le_iff_toInt_le, Int32.le_iff_toInt_le] at h
  omega
theorem pst_0 {m : Nat → Int32} {x y : Int32} (ok : a_ok m) (h : a_pst m x y = 0) : ∃ p, p < a_P m ∧ x = nI p ∧ a_n x = p ∧ -9999 ≤ y.toInt ∧ y.toInt ≤ 9999 := by
  unfold a_pst at h
  by_cases g : a_one m x = true
  · obtain ⟨p, hp, e1, e2⟩ := a_one_t ok g
    rw [if_pos g] at h
    by_cases d : a_in (-9999) 9999 y = true
    · exact ⟨p, hp, e1, e2, in_rg (a := -9999) (b := 9999) (by decide) (by decide) d⟩
    · rw [if_neg d] at h; exact absurd h (by decide)
  · rw [if_neg g] at h; exact absurd h (by decide)
theorem pst_p {m : Nat → Int32} {x y : Int32} (h : a_pst m x y ≠ 0) : ¬ a_pst m x y ≤ 0 := by
  unfold a_pst at h ⊢
  split at h
  · next q =>
    rw [if_pos q]
    split at h
    · exact absurd rfl h
    · next q => rw [if_neg q]; decide
  · next q => rw [if_neg q]; decide
def a_GV (m : Nat → Int32) (x y : Int32) : Nat × Nat := a_G m (a_ot m (a_n x)) y.toInt 0 0
def o_gained (m : Nat → Int32) (x y : Int32) : Int32 × Int32 × Option (Int64 × Int64) := if a_pst m x y = 0 then (nI (a_GV m x y).1, 0, none) else (-1, a_pst m x y, none)
theorem x_gained {S : vSt} {m : Nat → Int32} {x y : Int32} {K : Int32 → vSt → Prop} (ok : a_ok m) (R : a_R S 10 m) (h : a_XK S K (o_gained m x y)) : p_X10_gained S x y K := by
  unfold p_X10_gained
  rw [x_pastStatus R]
  unfold o_gained a_GV at h
  by_cases g : a_pst m x y = 0
  · obtain ⟨p, hp, rfl, e, y1, y2⟩ := pst_0 ok g
    rw [if_pos g, e] at h
    simp only [g, eq_self, reduceCtorEq, true_implies, false_implies, and_true, true_and, not_true_eq_false, not_false_eq_true]
    rw [iI_of y]
    refine x_look ok R ⟨y1, y2⟩ (fun S1 f1 v3 v4 => ?_)
    rw [v3]
    exact x_told (fr_w f1 pc_sx) h
  · rw [if_neg g] at h
    simp only [g, eq_self, reduceCtorEq, true_implies, false_implies, and_true, true_and, not_true_eq_false, not_false_eq_true]
    exact x_refused fr_r h
theorem m_gained {S : vSt} {m : Nat → Int32} {x y : Int32} {K : Int32 → vSt → Prop} (ok : a_ok m) (M : a_M S 0 m) (h : a_MK S K (o_gained m x y)) : p_X11_gained S x y K := by
  have h10 := ok_D10 ok
  unfold p_X11_gained
  rintro _ rfl
  rw [m_whyNotGained ok (M_thr M)]
  rintro _ rfl
  have g1 := g_why (S := S) (w := a_pst m x y)
  have M1 := M_g M g1
  rw [si_at]
  unfold o_gained a_GV at h
  by_cases g : a_pst m x y = 0
  · obtain ⟨p, hp, rfl, e, y1, y2⟩ := pst_0 ok g
    rw [if_pos g, e] at h
    rw [g] at g1 M1 ⊢
    simp only [show (0 : Int32) ≤ 0 from Int32.le_refl _, eq_self, reduceCtorEq, true_implies, false_implies, and_true, true_and, not_true_eq_false, not_false_eq_true]
    rw [iI_of y]
    have pl := m_waysFrom ok hp (a_D m) (13 - a_D m) 0 y.toInt 0
    rw [show a_D m + 1 + (13 - a_D m) = 14 by omega] at pl
    refine pl _ _ (by omega) (by omega) (by omega) (by omega) M1 (fun S1 f1 _ => ?_)
    exact m_ret (g_fr g1 f1) h
  · rw [if_neg g] at h
    simp only [pst_p g, eq_self, reduceCtorEq, true_implies, false_implies, and_true, true_and, not_true_eq_false, not_false_eq_true]
    exact m_ret g1 h
def o_sure (m : Nat → Int32) (x y : Int32) : Int32 × Int32 × Option (Int64 × Int64) := if a_pst m x y = 0 then (if (a_GV m x y).1 = 0 then (-1, 8, none) else (nI (a_GV m x y).2, 0, none)) else (-1, a_pst m x y, none)
theorem x_sure {S : vSt} {m : Nat → Int32} {x y : Int32} {K : Int32 → vSt → Prop} (ok : a_ok m) (R : a_R S 10 m) (h : a_XK S K (o_sure m x y)) : p_X10_sure S x y K := by
  unfold p_X10_sure
  rw [x_pastStatus R]
  unfold o_sure a_GV at h
  by_cases g : a_pst m x y = 0
  · obtain ⟨p, hp, rfl, e, y1, y2⟩ := pst_0 ok g
    rw [if_pos g, e] at h
    have hG := G_31 ok p y.toInt
    simp only [g, eq_self, reduceCtorEq, true_implies, false_implies, and_true, true_and, not_true_eq_false, not_false_eq_true]
    rw [iI_of y]
    refine x_look ok R ⟨y1, y2⟩ (fun S1 f1 v3 v4 => ?_)
    rw [v3]
    by_cases c : (a_G m (a_ot m p) y.toInt 0 0).1 = 0
    · rw [if_pos c] at h
      have c' : nI (a_G m (a_ot m p) y.toInt 0 0).1 = 0 := by rw [c]; rfl
      simp only [c', eq_self, reduceCtorEq, true_implies, false_implies, and_true, true_and, not_true_eq_false, not_false_eq_true]
      exact x_refused (fr_w f1 pc_sx) h
    · rw [if_neg c] at h
      have c' : ¬ nI (a_G m (a_ot m p) y.toInt 0 0).1 = 0 := nI_ne0 (by omega) (by omega)
      simp only [c', eq_self, reduceCtorEq, true_implies, false_implies, and_true, true_and, not_true_eq_false, not_false_eq_true, v4]
      exact x_told (fr_w f1 pc_sx) h
  · rw [if_neg g] at h
    simp only [g, eq_self, reduceCtorEq, true_implies, false_implies, and_true, true_and, not_true_eq_false, not_false_eq_true]
    exact x_refused fr_r h
theorem m_sure {S : vSt} {m : Nat → Int32} {x y : Int32} {K : Int32 → vSt → Prop} (ok : a_ok m) (M : a_M S 0 m) (h : a_MK S K (o_sure m x y)) : p_X11_sure S x y K := by
  have h10 := ok_D10 ok
  unfold p_X11_sure
  rintro _ rfl
  rw [m_whyNotGained ok (M_thr M)]
  rintro _ rfl
  have g1 := g_why (S := S) (w := a_pst m x y)
  have M1 := M_g M g1
  rw [si_at]
  unfold o_sure a_GV at h
  by_cases g : a_pst m x y = 0
  · obtain ⟨p, hp, rfl, e, y1, y2⟩ := pst_0 ok g
    rw [if_pos g, e] at h
    have hG := G_31 ok p y.toInt
    rw [g] at g1 M1 ⊢
    simp (disch := omega) only [show (0 : Int32) ≤ 0 from Int32.le_refl _, eq_self, reduceCtorEq, true_implies, false_implies, and_true, true_and, not_true_eq_false, not_false_eq_true, ia8, ia16, ia24, ia32, ia40, ia48, ia58, ia68, ia78, ia88, ia98, ncl, vpt, c0, c1, c2, c3, c4, c5, c6, c7, k0, k1, k2, k3, k4, k5, k6, k7, M_0 M1, ok_m1 ok, bit_1 _ (show a_D m < 31 by omega), forall_eq]
    have p2 := Nat.two_pow_pos (a_D m)
    have e2 : nI (2 ^ a_D m) - 1 = nI (2 ^ a_D m - 1) := pk_sub (b := 1) p2
    have le10 : 2 ^ a_D m ≤ 1024 := Nat.pow_le_pow_right (n := 2) (j := 10) (by omega) h10
    rw [e2, iI_of y]
    have pl := m_waysFrom ok hp (a_D m) (13 - a_D m) 0 y.toInt 0
    rw [show a_D m + 1 + (13 - a_D m) = 14 by omega] at pl
    have f0 : a_fr a_sm (v_si (v_si S 143 1 0) 143 0 0) (v_si (v_si (v_si S 143 1 0) 143 0 0) 143 31 (nI (2 ^ a_D m - 1))) := fr_i fr_r rfl
    refine pl _ _ (by omega) (by omega) (by omega) (by omega) (M_m M1 f0) (fun S1 f1 a1 => ?_)
    have a1 := a1 (2 ^ a_D m - 1) (by omega) si_at
    rw [a1]
    have gg := g_fr g1 (fr_t f0 f1)
    by_cases c : (a_G m (a_ot m p) y.toInt 0 0).1 = 0
    · rw [if_pos c] at h
      have c' : nI (a_G m (a_ol m p (a_D m) 0) y.toInt 0 0).1 = 0 := by
        show nI (a_G m (a_ot m p) y.toInt 0 0).1 = 0
        rw [c]; rfl
      simp only [c', eq_self, reduceCtorEq, true_implies, false_implies, and_true, true_and, not_true_eq_false, not_false_eq_true]
      exact m_refuse gg h
    · rw [if_neg c] at h
      have c' : ¬ nI (a_G m (a_ol m p (a_D m) 0) y.toInt 0 0).1 = 0 := nI_ne0 (n := (a_G m (a_ot m p) y.toInt 0 0).1) (by omega) (by omega)
      have q := G_lt (m := m) (D := a_D m) (a_ot m p) y.toInt 0 0 p2 (fun d hd => by have := (ol_lt _ _ _ hd).2; omega) c
      have e3 : (2 ^ a_D m - 1) &&& (a_G m (a_ol m p (a_D m) 0) y.toInt 0 0).2 = (a_G m (a_ot m p) y.toInt 0 0).2 := by
        rw [Nat.and_comm, Nat.and_two_pow_sub_one_eq_mod]
        exact Nat.mod_eq_of_lt q
      simp only [c', eq_self, reduceCtorEq, true_implies, false_implies, and_true, true_and, not_true_eq_false, not_false_eq_true, e3]
      exact m_ret gg h
  · rw [if_neg g] at h
    simp only [pst_p g, eq_self, reduceCtorEq, true_implies, false_implies, and_true, true_and, not_true_eq_false, not_false_eq_true]
    exact m_ret g1 h
def a_ls (m : Nat → Int32) : List Nat → Nat
  | [] => 0
  | d :: l => a_part m d + a_ls m l
theorem ls_app (m : Nat → Int32) : ∀ l k, a_ls m (l ++ k) = a_ls m l + a_ls m k
  | [], k => (Nat.zero_add _).symm
  | d :: l, k => by
    show a_part m d + a_ls m (l ++ k) = a_part m d + a_ls m l + a_ls m k
    rw [ls_app m l k, Nat.add_assoc]
def a_bd (m : Nat → Int32) (p : Nat) (y : Int32) : Int32 := if y = 0 then nI (a_ls m (a_ot m p)) else iI (-(((a_ot m p).length * a_L m : Nat) : Int))
def o_bound (m : Nat → Int32) (x y : Int32) : Int32 × Int32 × Option (Int64 × Int64) := if a_one m x = true then (if a_in 0 1 y = true then (a_bd m (a_n x) y, 0, none) else (-1, 5, none)) else (-1, 2, none)
theorem x_most {S : vSt} {m : Nat → Int32} {p : Nat} {K : Int32 → vSt → Prop} (ok : a_ok m) (R : a_R S 10 m) (h : ∀ S', a_fr a_pc S S' → K (nI (a_ls m (a_ot m p))) S') : p_X5_most S (nI p) K := by
  have hl := ot_len ok p
  unfold p_X5_most
  refine x_gather ok R (fun S1 f1 o1 => ?_)
  have R1 := R_x R (fr_w f1 pc_sx)
  refine v_loop (fun fu i (z : Int32) => p_X5_most_9 (nI p) K fu S1 z (nI i)) (fun i z => ∃ su, z = nI su ∧ su + a_ls m ((a_ot m p).drop i) = a_ls m (a_ot m p)) (a_ot m p).length (fun fu i z hi hI hk => ?_) (fun fu z hI => ?_) 0 ⟨0, rfl, by rw [List.drop_zero, Nat.zero_add]⟩
  · obtain ⟨su, rfl, e⟩ := hI
    have h2 : ¬ nI (a_ot m p).length ≤ nI i := nI_ge hi (by omega)
    obtain ⟨d, hd⟩ : ∃ d, (a_ot m p)[i]? = some d := ⟨_, List.getElem?_eq_getElem hi⟩
    rw [drop_at hd] at e
    have e : su + (a_part m d + a_ls m ((a_ot m p).drop (i + 1))) = a_ls m (a_ot m p) := e
    simp only [e_X5_most_9, o1.1, h2, eq_self, reduceCtorEq, true_implies, false_implies, and_true, true_and, not_true_eq_false, not_false_eq_true, x_prize ok R1 o1 hd, forall_eq, nIs, nI_add]
    exact hk _ ⟨su + a_part m d, rfl, by omega⟩
  · obtain ⟨su, rfl, e⟩ := hI
    simp only [e_X5_most_9, o1.1, Int32.le_refl, eq_self, reduceCtorEq, true_implies, false_implies, and_true, true_and, not_true_eq_false, not_false_eq_true]
    rw [List.drop_of_length_le (Nat.le_refl _)] at e
    have e : su + 0 = a_ls m (a_ot m p) := e
    rw [show su = a_ls m (a_ot m p) by omega]
    exact h S1 f1
theorem x_least {S : vSt} {m : Nat → Int32} {p : Nat} {K : Int32 → vSt → Prop} (ok : a_ok m) (R : a_R S 10 m) (h : ∀ S', a_fr a_pc S S' → K (iI (-(((a_ot m p).length * a_L m : Nat) : Int))) S') : p_X5_least S (nI p) K := by
  unfold p_X5_least
  refine x_gather ok R (fun S1 f1 o1 => ?_)
  have R1 := R_x R (fr_w f1 pc_sx)
  rw [x_rule2 R1, o1.1, (ok_L1 ok).1, nI_iI, nI_iI, iI_neg, iI_mul, Int.neg_mul, ← Int.natCast_mul]
  exact h S1 f1
theorem x_bound {S : vSt} {m : Nat → Int32} {x y : Int32} {K : Int32 → vSt → Prop} (ok : a_ok m) (R : a_R S 10 m) (h : a_XK S K (o_bound m x y)) : p_X10_bound S x y K := by
  unfold p_X10_bound p_X10_bound_26 p_X10_bound_56
  rw [e_hasPerson R, gd2]
  unfold o_bound a_bd at h
  by_cases g : a_one m x = true
  · obtain ⟨p, hp, rfl, e⟩ := a_one_t ok g
    rw [if_pos g, e] at h
    rw [g]
    simp only [eq_self, reduceCtorEq, true_implies, false_implies, and_true, true_and, not_true_eq_false, not_false_eq_true]
    by_cases g2 : a_in 0 1 y = true
    · rw [if_pos g2] at h
      rw [if_pos g2]
      by_cases c : y = 0
      · rw [if_pos c] at h
        simp only [c, eq_self, reduceCtorEq, true_implies, false_implies, and_true, true_and, not_true_eq_false, not_false_eq_true]
        exact x_most ok R (fun S1 f1 => x_told (fr_w f1 pc_sx) h)
      · rw [if_neg c] at h
        simp only [c, eq_self, reduceCtorEq, true_implies, false_implies, and_true, true_and, not_true_eq_false, not_false_eq_true]
        exact x_least ok R (fun S1 f1 => x_told (fr_w f1 pc_sx) h)
    · rw [if_neg g2] at h
      rw [if_neg g2]
      exact x_refused fr_r h
  · rw [if_neg g] at h
    rw [Bool.not_eq_true] at g
    rw [g]
    simp only [eq_self, reduceCtorEq, true_implies, false_implies, and_true, true_and, not_true_eq_false, not_false_eq_true]
    exact x_refused fr_r h
theorem m_bound {S : vSt} {m : Nat → Int32} {x y : Int32} {K : Int32 → vSt → Prop} (ok : a_ok m) (M : a_M S 0 m) (h : a_MK S K (o_bound m x y)) : p_X11_bound S x y K := by
  have h10 := ok_D10 ok
  obtain ⟨eL, L9⟩ := ok_L1 ok
  unfold p_X11_bound
  refine g_go (fun S1 g1 => ?_)
  have M1 := M_g M g1
  rw [e_isOne ok M1, e_min (lo := 0) (hi := 1) (L := 0) (H := 1) rfl rfl]
  unfold o_bound a_bd at h
  by_cases g : a_one m x = true
  · obtain ⟨p, hp, rfl, e⟩ := a_one_t ok g
    rw [if_pos g, e] at h
    rw [g]
    simp only [eq_self, reduceCtorEq, true_implies, false_implies, and_true, true_and, not_true_eq_false, not_false_eq_true]
    by_cases g2 : a_in 0 1 y = true
    · rw [if_pos g2] at h
      rw [g2]
      simp only [eq_self, reduceCtorEq, true_implies, false_implies, and_true, true_and, not_true_eq_false, not_false_eq_true]
      refine v_loop (fun fu i (z : Int32) => p_X11_bound_45 (nI p) y K fu S1 z (nI i)) (fun i z => ∃ l : List Nat, a_ot m p = l ++ a_ol m p (a_D m - i) i ∧ z = if y = 0 then nI (a_ls m l) else iI (-((l.length * a_L m : Nat) : Int))) (a_D m) (fun fu i z hi hI hk => ?_) (fun fu z hI => ?_) 0 ⟨[], rfl, ?_⟩
      · obtain ⟨l, el, rfl⟩ := hI
        have h1 : ¬ nI (a_D m) ≤ nI i := nI_ge hi (by omega)
        have eo : a_ol m p (a_D m - i) i = if m (48 + i) = nI p then a_ol m p (a_D m - (i + 1)) (i + 1) else i :: a_ol m p (a_D m - (i + 1)) (i + 1) := by
          rw [show a_D m - i = (a_D m - (i + 1)) + 1 by omega]
          rfl
        simp (disch := omega) only [e_X11_bound_45, ia8, ia16, ia24, ia32, ia40, ia48, ia58, ia68, ia78, ia88, ia98, ncl, vpt, c0, c1, c2, c3, c4, c5, c6, c7, k0, k1, k2, k3, k4, k5, k6, k7, M_0 M1, ok_m1 ok, h1, eq_self, reduceCtorEq, true_implies, false_implies, and_true, true_and, not_true_eq_false, not_false_eq_true, eL, m_part ok M1 hi]
        unfold p_X11_bound_95
        by_cases c : m (48 + i) = nI p
        · rw [if_pos c] at eo
          simp only [c, eq_self, reduceCtorEq, true_implies, false_implies, and_true, true_and, not_true_eq_false, not_false_eq_true, forall_eq, nIs]
          exact hk _ ⟨l, by rw [el, eo], by rw [Int32.add_zero]⟩
        · rw [if_neg c] at eo
          simp only [c, eq_self, reduceCtorEq, true_implies, false_implies, and_true, true_and, not_true_eq_false, not_false_eq_true, forall_eq, nIs]
          have e2 : a_ot m p = (l ++ [i]) ++ a_ol m p (a_D m - (i + 1)) (i + 1) := by rw [el, eo, List.append_assoc]; rfl
          by_cases c2 : y = 0
          · subst c2
            simp only [eq_self, reduceCtorEq, true_implies, false_implies, and_true, true_and, not_true_eq_false, not_false_eq_true, if_true]
            refine hk _ ⟨l ++ [i], e2, ?_⟩
            rw [if_pos rfl, nI_add, ls_app]
            rfl
          · simp only [c2, eq_self, reduceCtorEq, true_implies, false_implies, and_true, true_and, not_true_eq_false, not_false_eq_true, if_false]
            refine hk _ ⟨l ++ [i], e2, ?_⟩
            rw [if_neg c2, nI_iI, iI_neg, iI_add, List.length_append]
            congr 1
            show -((l.length * a_L m : Nat) : Int) + -(a_L m : Int) = -(((l.length + 1) * a_L m : Nat) : Int)
            rw [Nat.succ_mul]
            omega
      · obtain ⟨l, el, rfl⟩ := hI
        rw [Nat.sub_self] at el
        have el : a_ot m p = l := by rw [el]; exact List.append_nil l
        simp (disch := omega) only [e_X11_bound_45, ia8, ia16, ia24, ia32, ia40, ia48, ia58, ia68, ia78, ia88, ia98, ncl, vpt, c0, c1, c2, c3, c4, c5, c6, c7, k0, k1, k2, k3, k4, k5, k6, k7, M_0 M1, ok_m1 ok, Int32.le_refl, eq_self, reduceCtorEq, true_implies, false_implies, and_true, true_and, not_true_eq_false, not_false_eq_true]
        rw [← el]
        exact m_ret g1 h
      · show (0 : Int32) = if y = 0 then nI 0 else iI (-((0 * a_L m : Nat) : Int))
        rw [Nat.zero_mul]
        split <;> rfl
    · rw [if_neg g2] at h
      rw [Bool.not_eq_true] at g2
      rw [g2]
      simp only [eq_self, reduceCtorEq, true_implies, false_implies, and_true, true_and, not_true_eq_false, not_false_eq_true]
      exact m_refuse g1 h
  · rw [if_neg g] at h
    rw [Bool.not_eq_true] at g
    rw [g]
    simp only [eq_self, reduceCtorEq, true_implies, false_implies, and_true, true_and, not_true_eq_false, not_false_eq_true]
    exact m_refuse g1 h
