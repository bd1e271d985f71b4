/-! what is done: how such a call ends -/
def a_cx (k j : Nat) : Bool := a_sc 10 k j || decide ((k = 0 ∧ j = 14) ∨ k = 74 ∨ k = 75)
def a_cmm (k j : Nat) : Bool := a_cm k j || decide (k = 143 ∧ (j = 0 ∨ j = 1 ∨ j = 26))
theorem cx_w : ∀ k j, a_cx k j = false → a_sc 10 k j = false := fun k j h => (Bool.or_eq_false_iff.mp h).1
theorem cmm_w : ∀ k j, a_cmm k j = false → a_cm k j = false := fun k j h => (Bool.or_eq_false_iff.mp h).1
def a_XU {α : Type} (S : vSt) (K : α → vSt → Prop) (o : α × Int32 × (Nat → Int32)) : Prop := ∀ S', a_fr a_cx S S' → a_R S' 10 o.2.2 → S'.1 0 14 = o.2.1 → K o.1 S'
def a_MU {α : Type} (S : vSt) (K : α → vSt → Prop) (o : α × Int32 × (Nat → Int32)) : Prop := ∀ S', a_fr a_cmm S S' → a_M S' 0 o.2.2 → S'.1 143 0 = o.2.1 → K o.1 S'
theorem R_st {S : vSt} {m : Nat → Int32} {k j : Nat} {x : Int32} (R : a_R S 10 m) (hk : k < 10 ∨ 24 < k) : a_R (v_si S k j x) 10 m := by
  intro i hi
  have h1 : (a_xr i).1 ≤ 14 := (by decide +kernel : ∀ i, i < 108 → (a_xr i).1 ≤ 14) i (a_lv_lt hi)
  rw [si1, if_neg (fun w => by omega)]
  exact R i hi
theorem u_end {α : Type} {S S1 : vSt} {m' : Nat → Int32} {K : α → vSt → Prop} {x : α} {st : Int32} (f : a_fr a_cx S S1) (R : a_R S1 10 m') (h : a_XU S K (x, st, m')) : K x (v_si S1 0 14 st) := h _ (fr_i f rfl) (R_st R (by omega)) si_at
theorem u_told {S S1 : vSt} {m' : Nat → Int32} {K : Int32 → vSt → Prop} {x : Int32} (f : a_fr a_cx S S1) (R : a_R S1 10 m') (h : a_XU S K (x, 0, m')) : p_X10_told S1 x K := by
  rw [e_told]; exact u_end f R h
theorem u_refused {S S1 : vSt} {m' : Nat → Int32} {K : Int32 → vSt → Prop} {st : Int32} (f : a_fr a_cx S S1) (R : a_R S1 10 m') (h : a_XU S K (-1, st, m')) : p_X10_refused S1 st K := by
  rw [e_refused]; exact u_end f R h
theorem u_settled {S S1 : vSt} {m' : Nat → Int32} {K : Bool → vSt → Prop} {st : Int32} (f : a_fr a_cx S S1) (R : a_R S1 10 m') (h : a_XU S K (decide (st = 0), st, m')) : p_X10_settled S1 st K := by
  rw [e_settled]; exact u_end f R h
def a_gu (S S1 : vSt) (m : Nat → Int32) : Prop := a_fr a_cmm S S1 ∧ a_M S1 0 m ∧ S1.1 143 0 = 0
theorem M_st {S : vSt} {B : Nat} {m : Nat → Int32} {k j : Nat} {x : Int32} (M : a_M S B m) (hk : k ≠ 148) : a_M (v_si S k j x) B m := fun i hi => by
  rw [si1, if_neg (fun w => hk w.1.symm)]
  exact M i hi
theorem gu_go {S : vSt} {m : Nat → Int32} {Q : vSt → Prop} (M : a_M S 0 m) (h : ∀ S1, a_gu S S1 m → Q S1) : ∀ S1, S1 = v_si S 143 1 0 → ∀ S2, S2 = v_si S1 143 0 0 → Q S2 := by
  rintro S1 rfl S2 rfl
  exact h _ ⟨fr_i (fr_i fr_r rfl) rfl, M_st (M_st M (by omega)) (by omega), si_at⟩
theorem mu_ret {α : Type} {S S1 S2 : vSt} {m m' : Nat → Int32} {K : α → vSt → Prop} {x : α} (g : a_gu S S1 m) (f : a_fr a_cm S1 S2) (M : a_M S2 0 m') (h : a_MU S K (x, 0, m')) : K x S2 := h S2 (fr_t g.1 (fr_w f cmm_w)) M ((f 143 0 rfl).1.trans g.2.2)
/-! charge -/
def o_charge (m : Nat → Int32) (x y z : Int32) : Int32 × Int32 × (Nat → Int32) := if (a_one m x && a_two m y) = true then (if a_in 0 (m 2) z = true then (if a_can m (a_n x) (a_n y) = true then (a_hear m (a_n x) (a_n y) (a_n z) (8 + a_n x), 0, a_hear m (a_n x) (a_n y) (a_n z)) else (-1, 9, m)) else (-1, 5, m)) else (-1, 2, m)
theorem x_charge {S : vSt} {m : Nat → Int32} {x y z : Int32} {K : Int32 → vSt → Prop} (ok : a_ok m) (R : a_R S 10 m) (h : a_XU S K (o_charge m x y z)) : p_X10_charge S x y z K := by
  have h8 := ok_P8 ok
  obtain ⟨eJ, J1, J9⟩ := ok_J1 ok
  unfold p_X10_charge p_X10_charge_31
  rw [e_areThere R]
  unfold o_charge at h
  by_cases g : (a_one m x && a_two m y) = true
  · obtain ⟨p, d, hp, hd, rfl, rfl, e1, e2⟩ := a_both_t ok g
    rw [if_pos g, e1, e2] at h
    rw [g]
    simp only [eq_self, reduceCtorEq, true_implies, false_implies, and_true, true_and, not_true_eq_false, not_false_eq_true, x_rule0 R, gd2]
    by_cases g2 : a_in 0 (m 2) z = true
    · obtain ⟨k, hk, rfl, e3⟩ := a_in_t (n := a_J m) eJ (by omega) g2
      rw [if_pos g2, e3] at h
      rw [if_pos g2, x_mayCharge ok R hp hd]
      cases c : a_can m p d
      · rw [c, if_neg (by decide)] at h
        simp only [eq_self, reduceCtorEq, true_implies, false_implies, and_true, true_and, not_true_eq_false, not_false_eq_true]
        exact u_refused fr_r R h
      · rw [c, if_pos rfl] at h
        simp only [eq_self, reduceCtorEq, true_implies, false_implies, and_true, true_and, not_true_eq_false, not_false_eq_true]
        refine x_decide ok R hp hd (by omega) (fun S1 f1 R1 => ?_)
        have q := (hear_PD (m := m) (p := p) (d := d) (v := k)).1
        rw [e_at (show p < 8 by omega) (by omega), R_8 (b := 10) R1 (by rw [q]; exact hp) (by rw [q]; exact h8)]
        exact u_told (fr_w f1 cx_w) R1 h
    · rw [if_neg g2] at h ⊢
      exact u_refused fr_r R h
  · rw [if_neg g] at h
    rw [Bool.not_eq_true] at g
    rw [g]
    simp only [eq_self, reduceCtorEq, true_implies, false_implies, and_true, true_and, not_true_eq_false, not_false_eq_true]
    exact u_refused fr_r R h
/-! draws -/
def a_nx (s : Nat) : Nat := (s * 2971 + 10739) % 65536
theorem nx_lt (s : Nat) : a_nx s < 65536 := Nat.mod_lt _ (by omega)
def a_dw (s n : Nat) : Nat := a_nx s / 8 % n
theorem dw_eq {n s : Nat} (hn : 0 < n) (h2 : n < 2 ^ 30) : nI (a_nx s) / 8 - nI (a_nx s) / 8 / nI n * nI n = nI (a_dw s n) := by
  have h1 := nx_lt s
  have h3 : a_nx s / 8 ≤ a_nx s := Nat.div_le_self _ _
  rw [show (8 : Int32) = nI 8 from rfl, pk_div (show a_nx s < 2 ^ 31 by omega) (by omega) (by omega), pk_rem (show a_nx s / 8 < 2 ^ 31 by omega) hn (by omega)]
  rfl
theorem x_draw {S : vSt} {s n : Nat} {K : Int32 → vSt → Prop} (hs : s < 65536) (h1 : S.1 74 2 = nI s) (hn : 0 < n) (h2 : n < 2 ^ 30) : p_X4_draw S (nI n) K = K (nI (a_dw s n)) (v_si S 74 2 (nI (a_nx s))) := by
  unfold p_X4_draw
  have e : S.1 74 2 * 2971 + 10739 &&& 65535 = nI (a_nx s) := by
    rw [h1, show (2971 : Int32) = nI 2971 from rfl, show (10739 : Int32) = nI 10739 from rfl, pk_mul, nI_add, pk_andN (by omega) 16 (by decide)]
    rfl
  have n1 : ¬ nI n ≤ 0 := nI_nle hn (by omega)
  have n2 : ¬ nI n = 0 := nI_ne0 hn (by omega)
  simp only [e, forall_eq, n1, n2, si_at, eq_self, reduceCtorEq, true_implies, false_implies, and_true, true_and, not_true_eq_false, not_false_eq_true, dw_eq hn h2]
/-- the jurors: what the draw is then, how many votes -/
def a_jr (s c : Nat) : Nat → Nat × Nat
  | 0 => (s, 0)
  | i + 1 => (a_nx (a_jr s c i).1, (a_jr s c i).2 + if a_dw (a_jr s c i).1 16 < c then 1 else 0)
theorem jr_lt {s c : Nat} (hs : s < 65536) : ∀ i, (a_jr s c i).1 < 65536 ∧ (a_jr s c i).2 ≤ i
  | 0 => ⟨hs, Nat.le_refl _⟩
  | i + 1 => by
    have h := jr_lt (c := c) hs i
    refine ⟨nx_lt _, ?_⟩
    show (a_jr s c i).2 + (if a_dw (a_jr s c i).1 16 < c then 1 else 0) ≤ i + 1
    split <;> omega
def a_fx (k j : Nat) : Bool := decide (k = 74 ∧ j = 2)
def a_fm2 (k j : Nat) : Bool := decide (k = 143 ∧ j = 26)
theorem R_fx {S S' : vSt} {b : Nat} {m : Nat → Int32} (R : a_R S b m) (f : a_fr a_fx S S') (hb : b + 14 < 74) : a_R S' b m := by
  intro i hi
  have h1 : (a_xr i).1 ≤ 14 := (by decide +kernel : ∀ i, i < 108 → (a_xr i).1 ≤ 14) i (a_lv_lt hi)
  rw [(f _ _ (decide_eq_false (by omega))).1]
  exact R i hi
theorem M_fm2 {S S' : vSt} {B : Nat} {m : Nat → Int32} (M : a_M S B m) (f : a_fr a_fm2 S S') : a_M S' B m := M_fr M f (fun j => decide_eq_false (by omega))
theorem x_jury {S : vSt} {b p d s : Nat} {m : Nat → Int32} {K : Int32 → vSt → Prop} (ok : a_ok m) (R : a_R S b m) (hb : b + 14 < 74) (hp : p < a_P m) (hd : d < a_D m) (hs : s < 65536) (h1 : S.1 74 2 = nI s) (h : ∀ S', a_fr a_fx S S' → S'.1 74 2 = nI (a_jr s (a_c m p d) (a_J m)).1 → K (nI (a_jr s (a_c m p d) (a_J m)).2) S') : p_X4_jury b S (nI p) (nI d) K := by
  obtain ⟨eJ, J1, J9⟩ := ok_J1 ok
  have hc := a_c16 m p d
  unfold p_X4_jury
  rw [x_chanceOf ok R hp hd]
  refine v_loop (fun fu i (z : vSt × Int32) => p_X4_jury_14 b (nI p) (nI d) K fu z.1 (nI (a_c m p d)) z.2 (nI i)) (fun i z => a_fr a_fx S z.1 ∧ z.1.1 74 2 = nI (a_jr s (a_c m p d) i).1 ∧ z.2 = nI (a_jr s (a_c m p d) i).2) (a_J m) (fun fu i z hi hI hk => ?_) (fun fu z hI => ?_) (S, 0) ⟨fr_r, h1, rfl⟩
  · obtain ⟨S1, v⟩ := z
    obtain ⟨f1, h2, h3⟩ := hI
    simp only at f1 h2 h3
    subst h3
    have n1 : ¬ nI (a_J m) ≤ nI i := nI_ge hi (by omega)
    have b2 := jr_lt (c := a_c m p d) hs i
    have ed := x_draw (n := 16) (K := fun r S' => (nI (a_c m p d) ≤ r → p_X4_jury_38 b (nI p) (nI d) (p_X4_jury_14 b (nI p) (nI d) K fu) K S' (nI (a_c m p d)) (nI (a_jr s (a_c m p d) i).2) (nI i)) ∧ (¬ nI (a_c m p d) ≤ r → ∀ y21 : Int32, y21 = nI (a_jr s (a_c m p d) i).2 + 1 → p_X4_jury_38 b (nI p) (nI d) (p_X4_jury_14 b (nI p) (nI d) K fu) K S' (nI (a_c m p d)) y21 (nI i))) b2.1 h2 (by omega) (by omega)
    simp only [e_X4_jury_14, x_rule0 (R_fx R f1 hb), eJ, n1, eq_self, reduceCtorEq, true_implies, false_implies, and_true, true_and, not_true_eq_false, not_false_eq_true]
    refine Eq.mpr ed ?_
    have hdw : a_dw (a_jr s (a_c m p d) i).1 16 < 16 := Nat.mod_lt _ (by omega)
    have e2 : a_jr s (a_c m p d) (i + 1) = (a_nx (a_jr s (a_c m p d) i).1, (a_jr s (a_c m p d) i).2 + if a_dw (a_jr s (a_c m p d) i).1 16 < a_c m p d then 1 else 0) := rfl
    unfold p_X4_jury_38
    by_cases c : a_dw (a_jr s (a_c m p d) i).1 16 < a_c m p d
    · have n2 : ¬ nI (a_c m p d) ≤ nI (a_dw (a_jr s (a_c m p d) i).1 16) := nI_ge c (by omega)
      rw [if_pos c] at e2
      simp only [n2, eq_self, reduceCtorEq, true_implies, false_implies, and_true, true_and, not_true_eq_false, not_false_eq_true, forall_eq, nIs]
      exact hk (_, nI ((a_jr s (a_c m p d) i).2 + 1)) ⟨fr_i f1 rfl, by rw [e2]; exact si_at, by rw [e2]⟩
    · have n2 : nI (a_c m p d) ≤ nI (a_dw (a_jr s (a_c m p d) i).1 16) := nI_le (by omega) (by omega)
      rw [if_neg c] at e2
      simp only [n2, eq_self, reduceCtorEq, true_implies, false_implies, and_true, true_and, not_true_eq_false, not_false_eq_true, forall_eq, nIs]
      exact hk (_, nI (a_jr s (a_c m p d) i).2) ⟨fr_i f1 rfl, by rw [e2]; exact si_at, by rw [e2]; rfl⟩
  · obtain ⟨S1, v⟩ := z
    obtain ⟨f1, h2, h3⟩ := hI
    simp only at f1 h2 h3
    subst h3
    simp only [e_X4_jury_14, x_rule0 (R_fx R f1 hb), eJ, Int32.le_refl, eq_self, reduceCtorEq, true_implies, false_implies, and_true, true_and, not_true_eq_false, not_false_eq_true]
    exact h S1 f1 h2
/-! hear -/
def a_vo (m : Nat → Int32) (p d s : Nat) : Nat := (a_jr s (a_c m p d) (a_J m)).2
theorem vo_le {m : Nat → Int32} (ok : a_ok m) {p d s : Nat} (hs : s < 65536) : a_vo m p d s ≤ 9 := Nat.le_trans (jr_lt hs _).2 (ok_J1 ok).2.2
def o_hear (m : Nat → Int32) (x y z : Int32) : Int32 × Int32 × (Nat → Int32) := if (a_one m x && a_two m y) = true then (if a_in 0 9999 z = true then (if a_can m (a_n x) (a_n y) = true then (nI (a_vo m (a_n x) (a_n y) (a_n z)), 0, a_hear m (a_n x) (a_n y) (a_vo m (a_n x) (a_n y) (a_n z))) else (-1, 9, m)) else (-1, 5, m)) else (-1, 2, m)
theorem fx_cx : ∀ k j, a_cx k j = false → a_fx k j = false := fun k j h => by
  unfold a_cx at h
  rw [Bool.or_eq_false_iff, decide_eq_false_iff_not] at h
  exact decide_eq_false (by omega)
theorem fm2_cm : ∀ k j, a_cmm k j = false → a_fm2 k j = false := fun k j h => by
  unfold a_cmm at h
  rw [Bool.or_eq_false_iff, decide_eq_false_iff_not] at h
  exact decide_eq_false (by omega)
theorem x_hear {S : vSt} {m : Nat → Int32} {x y z : Int32} {K : Int32 → vSt → Prop} (ok : a_ok m) (R : a_R S 10 m) (h : a_XU S K (o_hear m x y z)) : p_X10_hear S x y z K := by
  unfold p_X10_hear p_X10_hear_26
  rw [e_areThere R]
  unfold o_hear at h
  by_cases g : (a_one m x && a_two m y) = true
  · obtain ⟨p, d, hp, hd, rfl, rfl, e1, e2⟩ := a_both_t ok g
    rw [if_pos g, e1, e2] at h
    rw [g]
    simp only [eq_self, reduceCtorEq, true_implies, false_implies, and_true, true_and, not_true_eq_false, not_false_eq_true, gd2]
    by_cases g2 : a_in 0 9999 z = true
    · obtain ⟨k, hk, rfl, e3⟩ := a_in_t (n := 9999) rfl (by omega) g2
      rw [if_pos g2, e3] at h
      rw [if_pos g2, x_mayCharge ok R hp hd]
      cases c : a_can m p d
      · rw [c, if_neg (by decide)] at h
        simp only [eq_self, reduceCtorEq, true_implies, false_implies, and_true, true_and, not_true_eq_false, not_false_eq_true]
        exact u_refused fr_r R h
      · rw [c, if_pos rfl] at h
        simp only [eq_self, reduceCtorEq, true_implies, false_implies, and_true, true_and, not_true_eq_false, not_false_eq_true, p_X4_sow, forall_eq]
        have f0 : a_fr a_fx S (v_si S 74 2 (nI k)) := fr_i fr_r rfl
        refine x_jury ok (R_fx R f0 (by omega)) (by omega) hp hd (show k < 65536 by omega) si_at (fun S1 f1 h1 => ?_)
        have f1' := fr_t f0 f1
        have hv := vo_le ok (p := p) (d := d) (show k < 65536 by omega)
        refine x_decide ok (R_fx R f1' (by omega)) hp hd (show a_vo m p d k < 100 by omega) (fun S2 f2 R2 => ?_)
        exact u_told (fr_t (fr_w f1' fx_cx) (fr_w f2 cx_w)) R2 h
    · rw [if_neg g2] at h ⊢
      exact u_refused fr_r R h
  · rw [if_neg g] at h
    rw [Bool.not_eq_true] at g
    rw [g]
    simp only [eq_self, reduceCtorEq, true_implies, false_implies, and_true, true_and, not_true_eq_false, not_false_eq_true]
    exact u_refused fr_r R h