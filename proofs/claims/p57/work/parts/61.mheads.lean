/-! the model reads a step's rest -/
def a_ye (S : vSt) (y : Nat → Int32) : Prop := ∀ j, j < 270 → S.1 148 (1630 + j) = y j
theorem ye_set {S : vSt} {y : Nat → Int32} {i j : Nat} {x : Int32} (h : a_ye S y) (e : i = 1630 + j) : a_ye (v_si S 148 i x) (a_set y j x) := by
  subst e
  intro k hk
  rw [si1]
  unfold a_set
  by_cases e : k = j
  · rw [if_pos ⟨rfl, by omega⟩, if_pos e]
  · rw [if_neg (fun q => e (by omega)), if_neg e]
    exact h k hk
theorem ye_mtf {S S' : vSt} {y : Nat → Int32} (h : a_ye S y) (f : a_fr a_mtf S S') : a_ye S' y := fun j hj => ((mtf_0 f).1 _).trans (h j hj)
/-- the city that the model's names are of -/
def a_CM (S : vSt) (m : Nat → Int32) (nm : Nat → Nat) : Prop := a_ok m ∧ a_nmb m nm ∧ a_M S 0 m ∧ a_nmM S 0 m nm
theorem CM_fr {S S' : vSt} {m : Nat → Int32} {nm : Nat → Nat} {c : Nat → Nat → Bool} (h : a_CM S m nm) (f : a_fr c S S') (h1 : ∀ j, j < 380 → c 148 j = false) (h2 : ∀ j, j < 18 → c 150 j = false) : a_CM S' m nm := by
  obtain ⟨ok, nb, M, nx⟩ := h
  have h8 := ok_P8 ok
  have h10 := ok_D10 ok
  refine ⟨ok, nb, fun j hj => ?_, fun p hp => ?_, fun d hd => ?_⟩
  · rw [(f 148 _ (h1 _ (by omega))).1]; exact M j hj
  · rw [(f 150 _ (h2 _ (by omega))).2]; exact nx.1 p hp
  · rw [(f 150 _ (h2 _ (by omega))).2]; exact nx.2 d hd
theorem CM_mcf {S S' : vSt} {m : Nat → Int32} {nm : Nat → Nat} (h : a_CM S m nm) (f : a_fr a_mcf S S') : a_CM S' m nm := CM_fr h f (fun j hj => decide_eq_false (by omega)) (fun j hj => decide_eq_false (by omega))
theorem CM_mtf {S S' : vSt} {m : Nat → Int32} {nm : Nat → Nat} (h : a_CM S m nm) (f : a_fr a_mtf S S') : a_CM S' m nm := CM_mcf h (fr_w f mtf_mcf)
/-! in bad mode -/
/-! in good mode -/
def a_MH (C : Nat → Nat) (n : Nat) (S : vSt) (Q : vSt → Prop) (y : aL → Nat → Int32) (res : aF ⊕ (aL × List aK)) : Prop := match res with
  | .inl e => ∀ S', a_fr a_mcf S S' → a_bad S' e → Q S'
  | .inr g => ∀ S', a_fr a_mcf S S' → a_MR S' C n g.2 → S'.1 143 12 = 0 → a_ye S' (y g.1) → Q S'
/-- a cell of a step is set -/
theorem st_y {S : vSt} {A j : Nat} {C : Nat → Nat} {n : Nat} {x : Int32} {R : List aK} {y : Nat → Int32} {Q : vSt → Prop} (A0 : A = 1630 + j) (hj : j + 8 < 270) (d : Nat) (hd : d ≤ 8) (T : a_TT S C n) (mr : a_MR S C n R) (z : S.1 143 12 = 0) (ye : a_ye S y) (h : ∀ S', a_fr a_blk S S' → a_TT S' C n → a_MR S' C n R → S'.1 143 12 = 0 → a_ye S' (a_set y (j + d) x) → Q S') : vp_in (nI A + nI d) 1900 ∧ ∀ S', S' = v_si S 148 (Int32.toNatClampNeg (nI A + nI d)) x → Q S' := by
  subst A0
  have fs : a_fr a_blk S (v_si S 148 (1630 + j + d) x) := fr_i fr_r (decide_eq_true ⟨rfl, by omega⟩)
  exact st_w (i := 1630 + j) rfl (by omega) (h _ fs (TT_mcf T (fr_w fs blk_mcf)) (MR_fr mr fs (fun j _ _ => decide_eq_false (by omega))) z (ye_set ye (by omega)))
