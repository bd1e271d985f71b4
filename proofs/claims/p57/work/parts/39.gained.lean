/-! gained, sure, bound -/
theorem G_le {m : Nat → Int32} : ∀ (l : List Nat) (x : Int) (r w : Nat), (a_G m l x r w).1 ≤ 3 ^ l.length * 2 ^ r
  | [], x, r, w => by
    have := pay_le (L := a_L m) r (-x)
    show a_pay (a_L m) (-x) r ≤ 3 ^ 0 * 2 ^ r
    omega
  | d :: l, x, r, w => by
    have h1 := G_le (m := m) l x (r + 1) w
    have h2 := G_le (m := m) l (x - a_part m d) r (w ||| 2 ^ d)
    show (a_G m l x (r + 1) w).1 + (a_G m l (x - a_part m d) r (w ||| 2 ^ d)).1 ≤ 3 ^ (l.length + 1) * 2 ^ r
    have e1 : 3 ^ l.length * 2 ^ (r + 1) = 2 * (3 ^ l.length * 2 ^ r) := by rw [Nat.pow_succ, ← Nat.mul_assoc, Nat.mul_comm _ 2]
    have e2 : 3 ^ (l.length + 1) * 2 ^ r = 3 * (3 ^ l.length * 2 ^ r) := by rw [Nat.pow_succ, Nat.mul_comm _ 3, Nat.mul_assoc]
    omega
theorem G_31 {m : Nat → Int32} (ok : a_ok m) (p : Nat) (x : Int) : (a_G m (a_ot m p) x 0 0).1 < 2 ^ 30 := by
  have h := G_le (m := m) (a_ot m p) x 0 0
  have h2 : 3 ^ (a_ot m p).length ≤ 3 ^ 10 := Nat.pow_le_pow_right (by omega) (ot_len ok p)
  omega
theorem va_lt {u v : Nat × Nat} {D : Nat} (h1 : u.1 ≠ 0 → u.2 < 2 ^ D) (h2 : v.1 ≠ 0 → v.2 < 2 ^ D) (h : (a_va u v).1 ≠ 0) : (a_va u v).2 < 2 ^ D := by
  have h : u.1 + v.1 ≠ 0 := h
  show u.2 &&& v.2 < 2 ^ D
  by_cases c : u.1 = 0
  · exact Nat.and_lt_two_pow _ (h2 (by omega))
  · exact Nat.lt_of_le_of_lt Nat.and_le_left (h1 c)
theorem G_lt {m : Nat → Int32} {D : Nat} : ∀ (l : List Nat) (x : Int) (r w : Nat), w < 2 ^ D → (∀ d, d ∈ l → d < D) → (a_G m l x r w).1 ≠ 0 → (a_G m l x r w).2 < 2 ^ D
  | [], x, r, w, hw, _, h => by
    show (if a_pay (a_L m) (-x) r = 0 then 1023 else w) < 2 ^ D
    rw [if_neg (show ¬ a_pay (a_L m) (-x) r = 0 from h)]
    exact hw
  | d :: l, x, r, w, hw, hl, h => by
    have hl' : ∀ e, e ∈ l → e < D := fun e he => hl e (List.mem_cons_of_mem _ he)
    have hd := hl d (List.mem_cons_self ..)
    refine va_lt (fun q => G_lt l x (r + 1) w hw hl' q) (fun q => G_lt l _ r _ (Nat.or_lt_two_pow hw (Nat.pow_lt_pow_right (by omega) hd)) hl' q) h
def a_pst (m : Nat → Int32) (x y : Int32) : Int32 := if a_one m x = true then (if a_in (-9999) 9999 y = true then 0 else 5) else 2
theorem x_pastStatus {S : vSt} {m : Nat → Int32} {x y : Int32} {K : Int32 → vSt → Prop} (R : a_R S 10 m) : p_X10_pastStatus S x y K = K (a_pst m x y) S := by
  unfold p_X10_pastStatus a_pst
  rw [e_hasPerson R, gd2]
  cases a_one m x <;> simp only [Bool.false_eq_true, if_true, if_false, eq_self, reduceCtorEq, true_implies, false_implies, and_true, true_and, not_true_eq_false, not_false_eq_true]
  split <;> rfl
theorem in_rg {x lo hi : Int32} {a b : Int} (ha : lo.toInt = a) (hb : hi.toInt = b) (g : a_in lo hi x = true) : a ≤ x.toInt ∧ x.toInt ≤ b := by
  have h := of_decide_eq_true g
  rw [Int32.le_iff_toInt_le, Int32.le_iff_toInt_le] at h
  omega
theorem pst_0 {m : Nat → Int32} {x y : Int32} (ok : a_ok m) (h : a_pst m x y = 0) : ∃ p, p < a_P m ∧ x = nI p ∧ a_n x = p ∧ -9999 ≤ y.toInt ∧ y.toInt ≤ 9999 := by
  unfold a_pst at h
  by_cases g : a_one m x = true
  · obtain ⟨p, hp, e1, e2⟩ := a_one_t ok g
    rw [if_pos g] at h
    by_cases d : a_in (-9999) 9999 y = true
    · exact ⟨p, hp, e1, e2, in_rg (a := -9999) (b := 9999) (by decide) (by decide) d⟩
    · rw [if_neg d] at h; exact absurd h (by decide)
  · rw [if_neg g] at h; exact absurd h (by decide)
theorem pst_p {m : Nat → Int32} {x y : Int32} (h : a_pst m x y ≠ 0) : ¬ a_pst m x y ≤ 0 := by
  unfold a_pst at h ⊢
  split at h
  · next q =>
    rw [if_pos q]
    split at h
    · exact absurd rfl h
    · next q => rw [if_neg q]; decide
  · next q => rw [if_neg q]; decide
def a_GV (m : Nat → Int32) (x y : Int32) : Nat × Nat := a_G m (a_ot m (a_n x)) y.toInt 0 0
def o_gained (m : Nat → Int32) (x y : Int32) : Int32 × Int32 × Option (Int64 × Int64) := if a_pst m x y = 0 then (nI (a_GV m x y).1, 0, none) else (-1, a_pst m x y, none)
theorem x_gained {S : vSt} {m : Nat → Int32} {x y : Int32} {K : Int32 → vSt → Prop} (ok : a_ok m) (R : a_R S 10 m) (h : a_XK S K (o_gained m x y)) : p_X10_gained S x y K := by
  unfold p_X10_gained
  rw [x_pastStatus R]
  unfold o_gained a_GV at h
  by_cases g : a_pst m x y = 0
  · obtain ⟨p, hp, rfl, e, y1, y2⟩ := pst_0 ok g
    rw [if_pos g, e] at h
    simp only [g, eq_self, reduceCtorEq, true_implies, false_implies, and_true, true_and, not_true_eq_false, not_false_eq_true]
    rw [iI_of y]
    refine x_look ok R ⟨y1, y2⟩ (fun S1 f1 v3 v4 => ?_)
    rw [v3]
    exact x_told (fr_w f1 pc_sx) h
  · rw [if_neg g] at h
    simp only [g, eq_self, reduceCtorEq, true_implies, false_implies, and_true, true_and, not_true_eq_false, not_false_eq_true]
    exact x_refused fr_r h
def o_sure (m : Nat → Int32) (x y : Int32) : Int32 × Int32 × Option (Int64 × Int64) := if a_pst m x y = 0 then (if (a_GV m x y).1 = 0 then (-1, 8, none) else (nI (a_GV m x y).2, 0, none)) else (-1, a_pst m x y, none)
theorem x_sure {S : vSt} {m : Nat → Int32} {x y : Int32} {K : Int32 → vSt → Prop} (ok : a_ok m) (R : a_R S 10 m) (h : a_XK S K (o_sure m x y)) : p_X10_sure S x y K := by
  unfold p_X10_sure
  rw [x_pastStatus R]
  unfold o_sure a_GV at h
  by_cases g : a_pst m x y = 0
  · obtain ⟨p, hp, rfl, e, y1, y2⟩ := pst_0 ok g
    rw [if_pos g, e] at h
    have hG := G_31 ok p y.toInt
    simp only [g, eq_self, reduceCtorEq, true_implies, false_implies, and_true, true_and, not_true_eq_false, not_false_eq_true]
    rw [iI_of y]
    refine x_look ok R ⟨y1, y2⟩ (fun S1 f1 v3 v4 => ?_)
    rw [v3]
    by_cases c : (a_G m (a_ot m p) y.toInt 0 0).1 = 0
    · rw [if_pos c] at h
      have c' : nI (a_G m (a_ot m p) y.toInt 0 0).1 = 0 := by rw [c]; rfl
      simp only [c', eq_self, reduceCtorEq, true_implies, false_implies, and_true, true_and, not_true_eq_false, not_false_eq_true]
      exact x_refused (fr_w f1 pc_sx) h
    · rw [if_neg c] at h
      have c' : ¬ nI (a_G m (a_ot m p) y.toInt 0 0).1 = 0 := nI_ne0 (by omega) (by omega)
      simp only [c', eq_self, reduceCtorEq, true_implies, false_implies, and_true, true_and, not_true_eq_false, not_false_eq_true, v4]
      exact x_told (fr_w f1 pc_sx) h
  · rw [if_neg g] at h
    simp only [g, eq_self, reduceCtorEq, true_implies, false_implies, and_true, true_and, not_true_eq_false, not_false_eq_true]
    exact x_refused fr_r h
def a_ls (m : Nat → Int32) : List Nat → Nat
  | [] => 0
  | d :: l => a_part m d + a_ls m l
theorem ls_app (m : Nat → Int32) : ∀ l k, a_ls m (l ++ k) = a_ls m l + a_ls m k
  | [], k => (Nat.zero_add _).symm
  | d :: l, k => by
    show a_part m d + a_ls m (l ++ k) = a_part m d + a_ls m l + a_ls m k
    rw [ls_app m l k, Nat.add_assoc]
def a_bd (m : Nat → Int32) (p : Nat) (y : Int32) : Int32 := if y = 0 then nI (a_ls m (a_ot m p)) else iI (-(((a_ot m p).length * a_L m : Nat) : Int))
def o_bound (m : Nat → Int32) (x y : Int32) : Int32 × Int32 × Option (Int64 × Int64) := if a_one m x = true then (if a_in 0 1 y = true then (a_bd m (a_n x) y, 0, none) else (-1, 5, none)) else (-1, 2, none)
theorem x_most {S : vSt} {m : Nat → Int32} {p : Nat} {K : Int32 → vSt → Prop} (ok : a_ok m) (R : a_R S 10 m) (h : ∀ S', a_fr a_pc S S' → K (nI (a_ls m (a_ot m p))) S') : p_X5_most S (nI p) K := by
  have hl := ot_len ok p
  unfold p_X5_most
  refine x_gather ok R (fun S1 f1 o1 => ?_)
  have R1 := R_x R (fr_w f1 pc_sx)
  refine v_loop (fun fu i (z : Int32) => p_X5_most_9 (nI p) K fu S1 z (nI i)) (fun i z => ∃ su, z = nI su ∧ su + a_ls m ((a_ot m p).drop i) = a_ls m (a_ot m p)) (a_ot m p).length (fun fu i z hi hI hk => ?_) (fun fu z hI => ?_) 0 ⟨0, rfl, by rw [List.drop_zero, Nat.zero_add]⟩
  · obtain ⟨su, rfl, e⟩ := hI
    have h2 : ¬ nI (a_ot m p).length ≤ nI i := nI_ge hi (by omega)
    obtain ⟨d, hd⟩ : ∃ d, (a_ot m p)[i]? = some d := ⟨_, List.getElem?_eq_getElem hi⟩
    rw [drop_at hd] at e
    have e : su + (a_part m d + a_ls m ((a_ot m p).drop (i + 1))) = a_ls m (a_ot m p) := e
    simp only [e_X5_most_9, o1.1, h2, eq_self, reduceCtorEq, true_implies, false_implies, and_true, true_and, not_true_eq_false, not_false_eq_true, x_prize ok R1 o1 hd, forall_eq, nIs, nI_add]
    exact hk _ ⟨su + a_part m d, rfl, by omega⟩
  · obtain ⟨su, rfl, e⟩ := hI
    simp only [e_X5_most_9, o1.1, Int32.le_refl, eq_self, reduceCtorEq, true_implies, false_implies, and_true, true_and, not_true_eq_false, not_false_eq_true]
    rw [List.drop_of_length_le (Nat.le_refl _)] at e
    have e : su + 0 = a_ls m (a_ot m p) := e
    rw [show su = a_ls m (a_ot m p) by omega]
    exact h S1 f1
theorem x_least {S : vSt} {m : Nat → Int32} {p : Nat} {K : Int32 → vSt → Prop} (ok : a_ok m) (R : a_R S 10 m) (h : ∀ S', a_fr a_pc S S' → K (iI (-(((a_ot m p).length * a_L m : Nat) : Int))) S') : p_X5_least S (nI p) K := by
  unfold p_X5_least
  refine x_gather ok R (fun S1 f1 o1 => ?_)
  have R1 := R_x R (fr_w f1 pc_sx)
  rw [x_rule2 R1, o1.1, (ok_L1 ok).1, nI_iI, nI_iI, iI_neg, iI_mul, Int.neg_mul, ← Int.natCast_mul]
  exact h S1 f1
theorem x_bound {S : vSt} {m : Nat → Int32} {x y : Int32} {K : Int32 → vSt → Prop} (ok : a_ok m) (R : a_R S 10 m) (h : a_XK S K (o_bound m x y)) : p_X10_bound S x y K := by
  unfold p_X10_bound p_X10_bound_26 p_X10_bound_56
  rw [e_hasPerson R, gd2]
  unfold o_bound a_bd at h
  by_cases g : a_one m x = true
  · obtain ⟨p, hp, rfl, e⟩ := a_one_t ok g
    rw [if_pos g, e] at h
    rw [g]
    simp only [eq_self, reduceCtorEq, true_implies, false_implies, and_true, true_and, not_true_eq_false, not_false_eq_true]
    by_cases g2 : a_in 0 1 y = true
    · rw [if_pos g2] at h
      rw [if_pos g2]
      by_cases c : y = 0
      · rw [if_pos c] at h
        simp only [c, eq_self, reduceCtorEq, true_implies, false_implies, and_true, true_and, not_true_eq_false, not_false_eq_true]
        exact x_most ok R (fun S1 f1 => x_told (fr_w f1 pc_sx) h)
      · rw [if_neg c] at h
        simp only [c, eq_self, reduceCtorEq, true_implies, false_implies, and_true, true_and, not_true_eq_false, not_false_eq_true]
        exact x_least ok R (fun S1 f1 => x_told (fr_w f1 pc_sx) h)
    · rw [if_neg g2] at h
      rw [if_neg g2]
      exact x_refused fr_r h
  · rw [if_neg g] at h
    rw [Bool.not_eq_true] at g
    rw [g]
    simp only [eq_self, reduceCtorEq, true_implies, false_implies, and_true, true_and, not_true_eq_false, not_false_eq_true]
    exact x_refused fr_r h