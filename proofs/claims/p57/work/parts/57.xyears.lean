/-! the class reads years -/
def a_ycf (k j : Nat) : Bool := decide ((k = 5 ∧ 5 ≤ j ∧ j ≤ 12) ∨ (32 ≤ k ∧ k ≤ 53) ∨ (55 ≤ k ∧ k ≤ 57) ∨ (7 ≤ k ∧ k ≤ 9))
def a_pnf (k j : Nat) : Bool := decide ((k = 5 ∧ 6 ≤ j ∧ j ≤ 10) ∨ (k = 56 ∧ j = 5))
def a_ylf (k j : Nat) : Bool := decide ((k = 47 ∧ (j = 6 ∨ j = 7)) ∨ (48 ≤ k ∧ k ≤ 51))
theorem ccf_ycf : ∀ k j, a_ycf k j = false → a_ccf k j = false := by
  intro k j q
  unfold a_ycf at q
  unfold a_ccf
  rw [decide_eq_false_iff_not] at q ⊢
  omega
theorem psf_pnf : ∀ k j, a_pnf k j = false → a_psf k j = false := by
  intro k j q
  unfold a_pnf at q
  unfold a_psf
  rw [decide_eq_false_iff_not] at q ⊢
  omega
theorem pnf_ycf : ∀ k j, a_ycf k j = false → a_pnf k j = false := by
  intro k j q
  unfold a_ycf at q
  unfold a_pnf
  rw [decide_eq_false_iff_not] at q ⊢
  omega
theorem psf_ycf : ∀ k j, a_ycf k j = false → a_psf k j = false := fun k j q => psf_pnf k j (pnf_ycf k j q)
theorem ylf_ycf : ∀ k j, a_ycf k j = false → a_ylf k j = false := by
  intro k j q
  unfold a_ycf at q
  unfold a_ylf
  rw [decide_eq_false_iff_not] at q ⊢
  omega
def a_XY {γ : Type} (S : vSt) (K : Bool → vSt → Prop) (good : γ → vSt → Prop) (res : aF ⊕ γ) : Prop := match res with
  | .inl e => ∀ S', a_fr a_ycf S S' → S'.1 5 11 = nI e.1 → S'.1 5 12 = nI e.2 → K false S'
  | .inr g => ∀ S', a_fr a_ycf S S' → good g S' → K true S'
theorem XY_F {γ : Type} {S : vSt} {K : Bool → vSt → Prop} {good : γ → vSt → Prop} {res : aF ⊕ γ} (h : a_XY S K good res) : a_XF S K good res := by
  cases res with
  | inl e => exact fun S' f b1 b2 => h S' (fr_w f ccf_ycf) b1 b2
  | inr g => exact fun S' f b => h S' (fr_w f ccf_ycf) b
/-- one after the other -/
theorem XY_bi {β γ : Type} {S S1 : vSt} {K K2 : Bool → vSt → Prop} {good : γ → vSt → Prop} {good1 : β → vSt → Prop} {r : aF ⊕ β} {f : β → aF ⊕ γ} (f0 : a_fr a_ycf S S1) (h : a_XY S K good (a_bi r f)) (h1 : ∀ S', K false S' → K2 false S') (h2 : ∀ b S', r = .inr b → a_fr a_ycf S S' → a_fr a_ycf S1 S' → good1 b S' → a_XY S K good (f b) → K2 true S') : a_XY S1 K2 good1 r := by
  cases r with
  | inl e => exact fun S' g b1 b2 => h1 S' (h S' (fr_t f0 g) b1 b2)
  | inr b => exact fun S' g w => h2 b S' rfl (fr_t f0 g) g w h
theorem XY_le {γ : Type} {S S1 : vSt} {K : Bool → vSt → Prop} {good : γ → vSt → Prop} {r : aF ⊕ γ} (f0 : a_fr a_ycf S S1) (h : a_XY S K good r) : a_XY S1 K good r := by
  cases r with
  | inl e => exact fun S' g b1 b2 => h S' (fr_t f0 g) b1 b2
  | inr b => exact fun S' g w => h S' (fr_t f0 g) w
def a_YW (S : vSt) (W : aW) (N K : Nat) : Prop := (∀ c i, c < 5 → i < 60 → S.1 (48 + c) i = W c i) ∧ S.1 47 6 = nI N ∧ S.1 47 7 = nI K ∧ S.1 47 8 = 1
def a_stk (S : vSt) : List (Nat × Nat) → Prop
  | [] => True
  | q :: σ => S.1 57 σ.length = nI q.1 ∧ a_stk S σ
def a_YD (S : vSt) (s : aY) : Prop := a_YW S s.1 s.2.2.1 s.2.2.2.1 ∧ S.1 56 4 = nI s.2.2.2.2.length ∧ a_stk S s.2.2.2.2
theorem YW_fr {S S' : vSt} {W : aW} {N K : Nat} {c : Nat → Nat → Bool} (h : a_YW S W N K) (f : a_fr c S S') (hc : ∀ k j, 47 ≤ k → k ≤ 52 → c k j = false) : a_YW S' W N K := by
  obtain ⟨a, b, d, e⟩ := h
  refine ⟨fun c i h1 h2 => ?_, ?_, ?_, ?_⟩
  · rw [(f _ _ (hc _ _ (by omega) (by omega))).1]; exact a c i h1 h2
  · rw [(f _ _ (hc _ _ (by omega) (by omega))).1]; exact b
  · rw [(f _ _ (hc _ _ (by omega) (by omega))).1]; exact d
  · rw [(f _ _ (hc _ _ (by omega) (by omega))).1]; exact e
theorem stk_eq {S S' : vSt} : ∀ σ : List (Nat × Nat), (∀ j, j < σ.length → S'.1 57 j = S.1 57 j) → a_stk S σ → a_stk S' σ
  | [], _, _ => trivial
  | q :: σ, h, k => ⟨by rw [h σ.length (by simp)]; exact k.1, stk_eq σ (fun j hj => h j (by rw [List.length_cons]; omega)) k.2⟩
theorem YD_fr {S S' : vSt} {s : aY} (h : a_YD S s) (f : a_fr a_pnf S S') : a_YD S' s := by
  obtain ⟨a, b, c⟩ := h
  refine ⟨YW_fr a f (fun k j h1 h2 => decide_eq_false (by omega)), (f 56 4 rfl).1.trans b, stk_eq _ (fun j _ => (f 57 j (decide_eq_false (by omega))).1) c⟩
theorem XR_ycf {S S' : vSt} {R : List aK} {c : Nat → Nat → Bool} (h : a_XR S R) (f : a_fr c S S') (hc : ∀ k j, k < 10 → c k j = false) : a_XR S' R := XR_fr h f (fun k j w => hc k j (by omega))
theorem x_add {S : vSt} {W : aW} {N K w : Nat} {g : aL} {Q : Int32 → vSt → Prop} (yw : a_YW S W N K) (hN : N < 60) (hw : w < 20 ∨ 20 < w) (hw2 : w < 100) (h : ∀ S', a_fr a_ylf S S' → a_YW S' (a_w4 W N (nI w) g) (N + 1) (K + 1) → Q (nI N) S') : p_X8_add 32 S (nI w) g.1 g.2.1 g.2.2 Q := by
  obtain ⟨a, b, d, e⟩ := yw
  have nw : ¬ nI w = 20 := fun q => by have := (nI_eq (a := w) (b := 20) (by omega) (by omega)).mp q; omega
  unfold p_X8_add
  show ∀ y8 : Int32, y8 = S.1 47 6 → ∀ S9, S9 = v_si S 47 6 (S.1 47 6 + 1) → p_X10_put 48 60 S9 y8 (nI w) _
  rw [b, nIs]
  rintro _ rfl _ rfl
  simp only [e_put hN (show 60 < 2 ^ 31 by omega), nw, eq_self, reduceCtorEq, true_implies, false_implies, and_true, true_and, not_true_eq_false, not_false_eq_true, forall_eq]
  refine h _ (fr_i (fr_i (fr_i (fr_i (fr_i (fr_i fr_r rfl) rfl) rfl) rfl) rfl) rfl) ⟨fun c i h1 h2 => ?_, ?_, ?_, ?_⟩
  · have e0 : ∀ x, (v_si (v_si (v_si (v_si (v_si (v_si S 47 6 (nI (N + 1))) 48 N (nI w)) 49 N g.1) 50 N g.2.1) 51 N g.2.2) 47 7 x).1 (48 + c) i = (v_si (v_si (v_si (v_si S 48 N (nI w)) 49 N g.1) 50 N g.2.1) 51 N g.2.2).1 (48 + c) i := by
      intro x
      rw [si1, if_neg (by omega), si1, si1, si1, si1, si1, si1, si1, si1, si1]
      have n47 : ¬ (48 + c = 47 ∧ i = 6) := by omega
      simp only [if_neg n47]
    refine (e0 _).trans ?_
    unfold a_w4
    rw [si1, si1, si1, si1]
    by_cases q : i = N
    · subst q
      match c, h1 with
      | 0, _ => simp
      | 1, _ => simp
      | 2, _ => simp
      | 3, _ => simp
      | 4, _ =>
        rw [if_neg (by omega), if_neg (by omega), if_neg (by omega), if_neg (by omega), if_neg (by omega)]
        exact a 4 i (by omega) h2
    · rw [if_neg (by omega), if_neg (by omega), if_neg (by omega), if_neg (by omega), if_neg (by omega)]
      exact a c i h1 h2
  · show (v_si (v_si S 47 6 (nI (N + 1))) 47 7 _).1 47 6 = _
    rw [si1, if_neg (by omega)]
    exact si_at
  · refine si_at.trans ?_
    show S.1 47 7 + 1 = _
    rw [d, nIs]
  · exact e
theorem x_open {S : vSt} {N d : Nat} {Q : vSt → Prop} (h1 : S.1 56 4 = nI d) (hd : d < 3) (h : ∀ S', a_fr (fun k j => decide ((k = 57 ∧ j = d) ∨ (k = 56 ∧ j = 4))) S S' → S'.1 57 d = nI N → S'.1 56 4 = nI (d + 1) → Q S') : p_X9_open S (nI N) Q := by
  unfold p_X9_open
  rw [h1, e_put hd (by omega)]
  rintro _ rfl
  refine h _ (fr_i (fr_i fr_r (decide_eq_true (Or.inl ⟨rfl, rfl⟩))) (decide_eq_true (Or.inr ⟨rfl, rfl⟩))) ?_ ?_
  · rw [si1, if_neg (by omega)]
    exact si_at
  · refine si_at.trans ?_
    show S.1 56 4 + 1 = _
    rw [h1, nIs]
/-- the city that the names are of -/
def a_CN (S : vSt) (m : Nat → Int32) (nm : Nat → Nat) : Prop := a_ok m ∧ a_nmb m nm ∧ a_R S 10 m ∧ a_nmX S 10 m nm
theorem CN_fr {S S' : vSt} {m : Nat → Int32} {nm : Nat → Nat} (h : a_CN S m nm) (f : a_fr a_ycf S S') : a_CN S' m nm := by
  obtain ⟨a, b, c, d⟩ := h
  refine ⟨a, b, R_fr c f (fun j hj => ?_), fun p hp => ?_, fun k hk => ?_⟩
  · have hx : (a_xr j).1 ≤ 14 := (by decide +kernel : ∀ i, i < 108 → (a_xr i).1 ≤ 14) j hj
    exact decide_eq_false (by omega)
  · rw [(f _ _ rfl).2]; exact d.1 p hp
  · rw [(f _ _ rfl).2]; exact d.2 k hk
theorem any_personBy {S : vSt} {m : Nat → Int32} {nm : Nat → Nat} {v : Int64} {K : Int32 → vSt → Prop} (cn : a_CN S m nm) (h : ∀ r, K r S) : p_X0_personBy 10 S v K := by
  obtain ⟨ok, nb, R, nx⟩ := cn
  have h8 := ok_P8 ok
  unfold p_X0_personBy
  refine v_loop (fun fu i (z : Unit) => p_X0_personBy_2 10 v K fu S (nI i)) (fun i z => True) (a_P m) (fun fu i z hi hz hk => ?_) (fun fu z hz => ?_) () trivial
  · have n1 : ¬ nI (a_P m) ≤ nI i := nI_ge hi (by omega)
    simp only [e_X0_personBy_2, R_0 R, ok_m0 ok, n1, eq_self, reduceCtorEq, true_implies, false_implies, and_true, true_and, not_true_eq_false, not_false_eq_true, e_atl (show i < 8 by omega) (show 8 < 2 ^ 31 by omega), forall_eq, nIs]
    exact ⟨fun _ => hk () trivial, fun _ => h _⟩
  · simp only [e_X0_personBy_2, R_0 R, ok_m0 ok, Int32.le_refl, eq_self, reduceCtorEq, true_implies, false_implies, and_true, true_and, not_true_eq_false, not_false_eq_true]
    exact h _
theorem any_deedBy {S : vSt} {m : Nat → Int32} {nm : Nat → Nat} {v : Int64} {K : Int32 → vSt → Prop} (cn : a_CN S m nm) (h : ∀ r, K r S) : p_X0_deedBy 10 S v K := by
  obtain ⟨ok, nb, R, nx⟩ := cn
  have h10 := ok_D10 ok
  unfold p_X0_deedBy
  refine v_loop (fun fu i (z : Unit) => p_X0_deedBy_2 10 v K fu S (nI i)) (fun i z => True) (a_D m) (fun fu i z hi hz hk => ?_) (fun fu z hz => ?_) () trivial
  · have n1 : ¬ nI (a_D m) ≤ nI i := nI_ge hi (by omega)
    simp only [e_X0_deedBy_2, R_1 R, ok_m1 ok, n1, eq_self, reduceCtorEq, true_implies, false_implies, and_true, true_and, not_true_eq_false, not_false_eq_true, e_atl (show i < 10 by omega) (show 10 < 2 ^ 31 by omega), forall_eq, nIs]
    exact ⟨fun _ => hk () trivial, fun _ => h _⟩
  · simp only [e_X0_deedBy_2, R_1 R, ok_m1 ok, Int32.le_refl, eq_self, reduceCtorEq, true_implies, false_implies, and_true, true_and, not_true_eq_false, not_false_eq_true]
    exact h _
def a_ptk (S : vSt) (g : Nat × List aK) (S' : vSt) : Prop := a_fr a_pnf S S' ∧ a_XR S' g.2 ∧ S'.1 56 5 = nI g.1
def a_onm (o : Option Nat) (R : List aK) : aF ⊕ (Nat × List aK) := if (a_h0 R).1 = 3 then (match o with
  | some p => .inr (p, R.tail)
  | none => .inl (3, (a_h0 R).2.1)) else .inl (a_bl R 2)
theorem x_named {S : vSt} {R : List aK} {o : Option Nat} {K : Bool → vSt → Prop} (wf : a_wf R) (xr : a_XR S R) (ho : ∀ k, o = some k → k < 30) (h : a_XY S K (a_ptk S) (a_onm o R)) (x : Int32) (hx : (a_h0 R).1 = 3 → x = a_oi o) : p_X9_takeNamed S x K := by
  obtain ⟨c7, c8, c9⟩ := XR_0 wf xr
  have tok := wf_ok wf
  have k6 := tok.2.1
  have e : nI (a_h0 R).1 = 3 ↔ (a_h0 R).1 = 3 := nI_eq (b := 3) (by omega) (by omega)
  unfold p_X9_takeNamed
  unfold a_onm at h
  rw [c7, e]
  by_cases c3 : (a_h0 R).1 = 3
  · rw [if_pos c3] at h
    rw [hx c3]
    simp only [c3, eq_self, reduceCtorEq, true_implies, false_implies, and_true, true_and, not_true_eq_false, not_false_eq_true]
    rw [oi_m1 (fun k q => by have := ho k q; omega)]
    cases o with
    | none =>
      simp only [eq_self, reduceCtorEq, true_implies, false_implies, and_true, true_and, not_true_eq_false, not_false_eq_true]
      refine x_blame (f := 3) wf xr (fun S' f b1 b2 => ?_)
      rw [bl_2 (by omega)] at b1 b2
      exact h S' (fr_w f ccf_ycf) b1 b2
    | some p =>
      have ns : ¬ (some p : Option Nat) = none := fun w => by cases w
      simp only [ns, eq_self, reduceCtorEq, true_implies, false_implies, and_true, true_and, not_true_eq_false, not_false_eq_true, forall_eq]
      have f1 : a_fr a_pnf S (v_si S 56 5 (nI p)) := fr_i fr_r rfl
      refine x_pas wf (by omega) (XR_ycf (c := fun k j => decide (k = 56)) xr (fr_i fr_r rfl) (fun k j w => decide_eq_false (by omega))) (fun S' f xr' _ => ?_)
      have f2 := fr_t f1 (fr_w f psf_pnf)
      exact h S' (fr_w f2 pnf_ycf) ⟨f2, xr', (f 56 5 rfl).1.trans si_at⟩
  · rw [if_neg c3] at h
    simp only [c3, eq_self, reduceCtorEq, true_implies, false_implies, and_true, true_and, not_true_eq_false, not_false_eq_true]
    exact x_blame (f := 2) wf xr (fun S' f b1 b2 => h S' (fr_w f ccf_ycf) b1 b2)
theorem x_takeP {S : vSt} {R : List aK} {m : Nat → Int32} {nm : Nat → Nat} {K : Bool → vSt → Prop} (cn : a_CN S m nm) (wf : a_wf R) (xr : a_XR S R) (h : a_XY S K (a_ptk S) (a_own2 m nm R)) : p_X9_personNow S (fun r S1 => p_X9_takeNamed S1 r K) := by
  obtain ⟨c7, c8, c9⟩ := XR_0 wf xr
  have h8 := ok_P8 cn.1
  unfold p_X9_personNow
  rw [c9]
  by_cases c3 : (a_h0 R).1 = 3
  · have hv := ((wf_ok wf).2.2.2.1 c3).1
    exact x_personBy cn.1 cn.2.2.1 cn.2.2.2 cn.2.1 hv (x_named (o := a_pb m nm (a_h0 R).2.2) wf xr (fun k q => by have := pb_lt q; omega) h _ (fun _ => rfl))
  · exact any_personBy cn (fun r => x_named (o := a_pb m nm (a_h0 R).2.2) wf xr (fun k q => by have := pb_lt q; omega) h _ (fun w => absurd w c3))
theorem x_takeD {S : vSt} {R : List aK} {m : Nat → Int32} {nm : Nat → Nat} {K : Bool → vSt → Prop} (cn : a_CN S m nm) (wf : a_wf R) (xr : a_XR S R) (h : a_XY S K (a_ptk S) (a_own3 m nm R)) : p_X9_deedNow S (fun r S1 => p_X9_takeNamed S1 r K) := by
  obtain ⟨c7, c8, c9⟩ := XR_0 wf xr
  have h10 := ok_D10 cn.1
  unfold p_X9_deedNow
  rw [c9]
  by_cases c3 : (a_h0 R).1 = 3
  · have hv := ((wf_ok wf).2.2.2.1 c3).1
    exact x_deedBy cn.1 cn.2.2.1 cn.2.2.2 cn.2.1 hv (x_named (o := a_db m nm (a_h0 R).2.2) wf xr (fun k q => by have := db_lt q; omega) h _ (fun _ => rfl))
  · exact any_deedBy cn (fun r => x_named (o := a_db m nm (a_h0 R).2.2) wf xr (fun k q => by have := db_lt q; omega) h _ (fun w => absurd w c3))
