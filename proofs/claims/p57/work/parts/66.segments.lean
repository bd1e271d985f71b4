/-! segments: lines i..j of the class are the model's steps k..t -/
def a_ln (m : Nat → Int32) (W : aW) (y : Nat → Int32) (i k w : Nat) (g : aL) : Prop := a_bgs w = true ∧ a_lok m w g ∧ W 0 i = nI w ∧ W 1 i = g.1 ∧ W 2 i = g.2.1 ∧ W 3 i = g.2.2 ∧ ∃ y0, ∀ f, f < 8 → y (9 * k + f) = a_yr y0 k w g (9 * k + f)
def a_sg (m : Nat → Int32) (W : aW) (y : Nat → Int32) (h i k t j : Nat) : Prop := ∀ P : Nat → Nat → Nat → Nat → Nat → Prop,
  (∀ h i k, P h i k k i) →
  (∀ h i k t j w g, a_ln m W y i k w g → a_ope w = false → y (9 * k + 8) = nI (k + 1) → P h (i + 1) (k + 1) t j → P h i k t j) →
  (∀ h i k p e t j w g, a_ln m W y i k w g → a_ope w = true → y (9 * k + 8) = nI e → W 0 p = 20 → W 4 p = nI i → W 4 i = nI p → P h (i + 1) (k + 1) e p → P (h + 1) (p + 1) e t j → P (h + 1) i k t j) → P h i k t j
theorem sg_0 {m : Nat → Int32} {W : aW} {y : Nat → Int32} {h i k : Nat} : a_sg m W y h i k k i := fun P q _ _ => q h i k
theorem sg_1 {m : Nat → Int32} {W : aW} {y : Nat → Int32} {h i k t j w : Nat} {g : aL} (l : a_ln m W y i k w g) (o : a_ope w = false) (e : y (9 * k + 8) = nI (k + 1)) (q : a_sg m W y h (i + 1) (k + 1) t j) : a_sg m W y h i k t j := fun P h0 h1 h2 => h1 h i k t j w g l o e (q P h0 h1 h2)
theorem sg_2 {m : Nat → Int32} {W : aW} {y : Nat → Int32} {h i k p e t j w : Nat} {g : aL} (l : a_ln m W y i k w g) (o : a_ope w = true) (e8 : y (9 * k + 8) = nI e) (w0 : W 0 p = 20) (w4 : W 4 p = nI i) (w5 : W 4 i = nI p) (q : a_sg m W y h (i + 1) (k + 1) e p) (q' : a_sg m W y (h + 1) (p + 1) e t j) : a_sg m W y (h + 1) i k t j := fun P h0 h1 h2 => h2 h i k p e t j w g l o e8 w0 w4 w5 (q P h0 h1 h2) (q' P h0 h1 h2)
theorem sg_le {m : Nat → Int32} {W : aW} {y : Nat → Int32} {h i k t j : Nat} (q : a_sg m W y h i k t j) : i ≤ j ∧ k ≤ t := by
  refine q (fun h i k t j => i ≤ j ∧ k ≤ t) (fun h i k => ⟨Nat.le_refl _, Nat.le_refl _⟩) (fun h i k t j w g _ _ _ q => ?_) (fun h i k p e t j w g _ _ _ _ _ _ q q' => ?_)
  · omega
  · omega
theorem sg_app {m : Nat → Int32} {W : aW} {y : Nat → Int32} {h i k t j t2 j2 : Nat} (q : a_sg m W y h i k t j) (q2 : a_sg m W y h j t t2 j2) : a_sg m W y h i k t2 j2 := by
  have key : a_sg m W y h i k t j ∧ ∀ t2 j2, a_sg m W y h j t t2 j2 → a_sg m W y h i k t2 j2 := by
    refine q (fun h i k t j => a_sg m W y h i k t j ∧ ∀ t2 j2, a_sg m W y h j t t2 j2 → a_sg m W y h i k t2 j2) (fun h i k => ⟨sg_0, fun t2 j2 q => q⟩) (fun h i k t j w g l o e q => ?_) (fun h i k p e t j w g l o e8 w0 w4 w5 q q' => ?_)
    · exact ⟨sg_1 l o e q.1, fun t2 j2 r => sg_1 l o e (q.2 t2 j2 r)⟩
    · exact ⟨sg_2 l o e8 w0 w4 w5 q.1 q'.1, fun t2 j2 r => sg_2 l o e8 w0 w4 w5 q.1 (q'.2 t2 j2 r)⟩
  exact key.2 t2 j2 q2
theorem ln_eq {m : Nat → Int32} {W W' : aW} {y y' : Nat → Int32} {i k w : Nat} {g : aL} (l : a_ln m W y i k w g) (hW : ∀ c, c < 4 → W' c i = W c i) (hy : ∀ f, f < 8 → y' (9 * k + f) = y (9 * k + f)) : a_ln m W' y' i k w g := by
  obtain ⟨a, b, c0, c1, c2, c3, y0, c4⟩ := l
  exact ⟨a, b, (hW 0 (by omega)).trans c0, (hW 1 (by omega)).trans c1, (hW 2 (by omega)).trans c2, (hW 3 (by omega)).trans c3, y0, fun f hf => (hy f hf).trans (c4 f hf)⟩
theorem sg_eq {m : Nat → Int32} {W W' : aW} {y y' : Nat → Int32} {h i k t j : Nat} (q : a_sg m W y h i k t j) (hW : ∀ c x, c < 5 → i ≤ x → x < j → W' c x = W c x) (hy : ∀ x, 9 * k ≤ x → x < 9 * t → y' x = y x) : a_sg m W' y' h i k t j := by
  have key : (i ≤ j ∧ k ≤ t) ∧ ((∀ c x, c < 5 → i ≤ x → x < j → W' c x = W c x) → (∀ x, 9 * k ≤ x → x < 9 * t → y' x = y x) → a_sg m W' y' h i k t j) := by
    refine q (fun h i k t j => (i ≤ j ∧ k ≤ t) ∧ ((∀ c x, c < 5 → i ≤ x → x < j → W' c x = W c x) → (∀ x, 9 * k ≤ x → x < 9 * t → y' x = y x) → a_sg m W' y' h i k t j)) (fun h i k => ⟨⟨Nat.le_refl _, Nat.le_refl _⟩, fun _ _ => sg_0⟩) (fun h i k t j w g l o e q => ?_) (fun h i k p e t j w g l o e8 w0 w4 w5 q q' => ?_)
    · obtain ⟨⟨a1, a2⟩, q⟩ := q
      refine ⟨by omega, fun q1 q2 => sg_1 (ln_eq l (fun c hc => q1 c i (by omega) (by omega) (by omega)) (fun f hf => q2 _ (by omega) (by omega))) o ((q2 _ (by omega) (by omega)).trans e) (q (fun c x hc h1 h2 => q1 c x hc (by omega) h2) (fun x h1 h2 => q2 x (by omega) h2))⟩
    · obtain ⟨⟨a1, a2⟩, q⟩ := q
      obtain ⟨⟨b1, b2⟩, q'⟩ := q'
      refine ⟨by omega, fun q1 q2 => sg_2 (p := p) (ln_eq l (fun c hc => q1 c i (by omega) (by omega) (by omega)) (fun f hf => q2 _ (by omega) (by omega))) o ((q2 _ (by omega) (by omega)).trans e8) ((q1 0 p (by omega) (by omega) (by omega)).trans w0) ((q1 4 p (by omega) (by omega) (by omega)).trans w4) ((q1 4 i (by omega) (by omega) (by omega)).trans w5) (q (fun c x hc h1 h2 => q1 c x hc (by omega) (by omega)) (fun x h1 h2 => q2 x (by omega) (by omega))) (q' (fun c x hc h1 h2 => q1 c x hc (by omega) h2) (fun x h1 h2 => q2 x (by omega) h2))⟩
  exact key.2 hW hy
/-- the people told, the deeds told may be more -/
theorem lok_mono {m m' : Nat → Int32} {w : Nat} {g : aL} (h : a_lok m w g) (hP : a_P m ≤ a_P m') (hD : a_D m ≤ a_D m') : a_lok m' w g := by
  unfold a_lok at h ⊢
  by_cases c1 : w = 11
  · rw [if_pos c1] at h ⊢
    obtain ⟨p, d, h1, h2, h3⟩ := h
    exact ⟨p, d, by omega, by omega, h3⟩
  · rw [if_neg c1] at h ⊢
    by_cases c2 : w = 12
    · rw [if_pos c2] at h ⊢
      obtain ⟨p, d, z, h1, h2, h3⟩ := h
      exact ⟨p, d, z, by omega, by omega, h3⟩
    · rw [if_neg c2] at h ⊢
      by_cases c3 : w = 14
      · rw [if_pos c3] at h ⊢
        obtain ⟨p, z, h1, h3⟩ := h
        exact ⟨p, z, by omega, h3⟩
      · rw [if_neg c3] at h ⊢
        by_cases c4 : w = 16
        · rw [if_pos c4] at h ⊢
          rcases h with ⟨d, h1, h2⟩ | ⟨p, h1, h2⟩ | ⟨p, q, z, h1, h2⟩
          · exact Or.inl ⟨d, by omega, h2⟩
          · exact Or.inr (Or.inl ⟨p, by omega, h2⟩)
          · exact Or.inr (Or.inr ⟨p, q, z, by omega, h2⟩)
        · rw [if_neg c4] at h ⊢
          exact h
theorem sg_mono {m m' : Nat → Int32} {W : aW} {y : Nat → Int32} {h i k t j : Nat} (q : a_sg m W y h i k t j) (hP : a_P m ≤ a_P m') (hD : a_D m ≤ a_D m') : a_sg m' W y h i k t j := by
  have ll : ∀ i k w g, a_ln m W y i k w g → a_ln m' W y i k w g := fun i k w g l => ⟨l.1, lok_mono l.2.1 hP hD, l.2.2⟩
  exact q (fun h i k t j => a_sg m' W y h i k t j) (fun h i k => sg_0) (fun h i k t j w g l o e q => sg_1 (ll _ _ _ _ l) o e q) (fun h i k p e t j w g l o e8 w0 w4 w5 q q' => sg_2 (ll _ _ _ _ l) o e8 w0 w4 w5 q q')
/-- with what is open yet -/
def a_zp (m : Nat → Int32) (W : aW) (y : Nat → Int32) : List (Nat × Nat) → Nat → Nat → Prop
  | [], N, K => a_sg m W y 3 0 0 K N
  | q :: σ, N, K => a_sg m W y (2 - σ.length) (q.1 + 1) (q.2 + 1) K N ∧ (∃ w g, a_ln m W y q.1 q.2 w g ∧ a_ope w = true) ∧ a_zp m W y σ q.1 q.2
theorem zp_app {m : Nat → Int32} {W : aW} {y : Nat → Int32} {σ : List (Nat × Nat)} {N K N2 K2 : Nat} (h : a_zp m W y σ N K) (h2 : a_sg m W y (3 - σ.length) N K K2 N2) : a_zp m W y σ N2 K2 := by
  cases σ with
  | nil => exact sg_app h h2
  | cons q σ => exact ⟨sg_app h.1 (by rw [List.length_cons, show 3 - (σ.length + 1) = 2 - σ.length by omega] at h2; exact h2), h.2⟩
theorem zp_eq {m : Nat → Int32} {W W' : aW} {y y' : Nat → Int32} : ∀ (σ : List (Nat × Nat)) (N K : Nat), a_zp m W y σ N K → (∀ c x, c < 5 → x < N → W' c x = W c x) → (∀ x, x < 9 * K → y' x = y x) → a_zp m W' y' σ N K
  | [], N, K, h, hW, hy => sg_eq h (fun c x hc _ hx => hW c x hc hx) (fun x _ hx => hy x hx)
  | q :: σ, N, K, h, hW, hy => by
    obtain ⟨h1, ⟨w, g, l, o⟩, h2⟩ := h
    obtain ⟨a, b⟩ := sg_le h1
    exact ⟨sg_eq h1 (fun c x hc _ hx => hW c x hc hx) (fun x _ hx => hy x hx), ⟨w, g, ln_eq l (fun c hc => hW c _ (by omega) (by omega)) (fun f hf => hy _ (by omega)), o⟩, zp_eq σ q.1 q.2 h2 (fun c x hc hx => hW c x hc (by omega)) (fun x hx => hy x (by omega))⟩
/-- a step's cells alone change -/
theorem yr_ne {y : Nat → Int32} {k w x : Nat} {g : aL} (h : x < 9 * k ∨ 9 * k + 8 ≤ x) : a_yr y k w g x = y x := by
  unfold a_yr
  split
  · rw [a_set_ne (by omega), a_set_ne (by omega), a_set_ne (by omega)]
  · split
    · rw [a_set_ne (by omega), a_set_ne (by omega), a_set_ne (by omega), a_set_ne (by omega)]
    · split
      · rw [a_set_ne (by omega), a_set_ne (by omega), a_set_ne (by omega)]
      · split
        · rw [a_set_ne (by omega)]
        · split
          · split
            · rw [a_set_ne (by omega), a_set_ne (by omega), a_set_ne (by omega)]
            · split
              · rw [a_set_ne (by omega), a_set_ne (by omega), a_set_ne (by omega)]
              · rw [a_set_ne (by omega), a_set_ne (by omega), a_set_ne (by omega), a_set_ne (by omega), a_set_ne (by omega)]
          · split
            · rw [a_set_ne (by omega), a_set_ne (by omega)]
            · rw [a_set_ne (by omega)]
theorem w4_ne {W : aW} {N c x : Nat} {w : Int32} {g : aL} (h : x ≠ N) : a_w4 W N w g c x = W c x := by
  unfold a_w4
  rw [if_neg (fun q => h q.1)]
theorem zp_yad {m : Nat → Int32} {s : aY} {w : Nat} {g : aL} (hb : a_bgs w = true) (lo : a_lok m w g) (h : a_zp m s.1 s.2.1 s.2.2.2.2 s.2.2.1 s.2.2.2.1) : a_zp m (a_yad s w g).1 (a_yad s w g).2.1 (a_yad s w g).2.2.2.2 (a_yad s w g).2.2.1 (a_yad s w g).2.2.2.1 := by
  obtain ⟨W, y, N, K, σ⟩ := s
  simp only at h
  show a_zp m (a_w4 W N (nI w) g) (if a_ope w = true then a_yr y K w g else a_set (a_yr y K w g) (9 * K + 8) (nI (K + 1))) (if a_ope w = true then (N, K) :: σ else σ) (N + 1) (K + 1)
  have lW : ∀ c, c < 4 → a_w4 W N (nI w) g c N = if c = 0 then nI w else if c = 1 then g.1 else if c = 2 then g.2.1 else g.2.2 := by
    intro c hc
    unfold a_w4
    rw [if_pos ⟨rfl, hc⟩]
  have ln : ∀ y', (∀ f, f < 8 → y' (9 * K + f) = a_yr y K w g (9 * K + f)) → a_ln m (a_w4 W N (nI w) g) y' N K w g := fun y' hy => ⟨hb, lo, lW 0 (by omega), lW 1 (by omega), lW 2 (by omega), lW 3 (by omega), y, hy⟩
  have zq : ∀ y', (∀ x, x < 9 * K → y' x = y x) → a_zp m (a_w4 W N (nI w) g) y' σ N K := fun y' hy => zp_eq σ N K h (fun c x _ hx => w4_ne (by omega)) hy
  cases o : a_ope w
  · rw [if_neg (by decide), if_neg (by decide)]
    refine zp_app (zq _ (fun x hx => ?_)) (sg_1 (ln _ (fun f hf => ?_)) o a_set_eq sg_0)
    · rw [a_set_ne (by omega), yr_ne (Or.inl hx)]
    · rw [a_set_ne (by omega)]
  · rw [if_pos rfl, if_pos rfl]
    exact ⟨sg_0, ⟨w, g, ln _ (fun _ _ => rfl), o⟩, zq _ (fun x hx => yr_ne (Or.inl hx))⟩
theorem zp_yen {m : Nat → Int32} {W : aW} {y : Nat → Int32} {N K l k : Nat} {σ : List (Nat × Nat)} (h : a_zp m W y ((l, k) :: σ) N K) (hl : σ.length < 3) : a_zp m (a_wp (a_wp (a_w4 W N 20 (-1, -1, 0)) l N) N l) (a_set y (9 * k + 8) (nI K)) σ (N + 1) K := by
  obtain ⟨h1, ⟨w, g, ln, o⟩, h2⟩ := h
  obtain ⟨a, b⟩ := sg_le h1
  simp only at a b h1 ln h2
  have eW : ∀ c x, x < N → (c < 4 ∨ x ≠ l) → a_wp (a_wp (a_w4 W N 20 (-1, -1, 0)) l N) N l c x = W c x := by
    intro c x hx hc
    unfold a_wp
    rw [if_neg (by omega), if_neg (by omega), w4_ne (by omega)]
  have z2 := zp_eq (W' := a_wp (a_wp (a_w4 W N 20 (-1, -1, 0)) l N) N l) (y' := a_set y (9 * k + 8) (nI K)) σ l k h2 (fun c x _ hx => eW c x (by omega) (Or.inr (by omega))) (fun x hx => a_set_ne (by omega))
  have s1 := sg_eq (W' := a_wp (a_wp (a_w4 W N 20 (-1, -1, 0)) l N) N l) (y' := a_set y (9 * k + 8) (nI K)) h1 (fun c x _ h1 h2 => eW c x h2 (Or.inr (by omega))) (fun x h1 h2 => a_set_ne (by omega))
  have eh : 3 - σ.length = (2 - σ.length) + 1 := by omega
  refine zp_app z2 ?_
  rw [eh]
  refine (sg_2 (p := N) (e := K) (ln_eq ln (fun c hc => eW c l (by omega) (Or.inl hc)) (fun f hf => a_set_ne (by omega))) o a_set_eq ?_ ?_ ?_ s1 sg_0)
  · unfold a_wp a_w4
    rw [if_neg (by omega), if_neg (by omega), if_pos ⟨rfl, by omega⟩, if_pos rfl]
  · unfold a_wp
    rw [if_pos ⟨rfl, rfl⟩]
  · unfold a_wp
    rw [if_neg (by omega), if_pos ⟨rfl, rfl⟩]
theorem zp_yon {m : Nat → Int32} {nm : Nat → Nat} {s : aY} {R : List aK} {g : aY × List aK} (yi : a_YI s) (wf : a_wf R) (h : a_zp m s.1 s.2.1 s.2.2.2.2 s.2.2.1 s.2.2.2.1) (e : a_yon m nm s R = .inr g) : a_zp m g.1.1 g.1.2.1 g.1.2.2.2.2 g.1.2.2.1 g.1.2.2.2.1 := by
  unfold a_yon at e
  split at e
  · obtain ⟨W, y, N, K, σ⟩ := s
    unfold a_yen at e
    cases σ with
    | nil => cases e
    | cons q σ =>
      obtain ⟨R', e2, e⟩ := bi_inr e
      cases e
      exact zp_yen h (by have := yi.2.2.1; simp only [List.length_cons] at this; show σ.length < 3; omega)
  · obtain ⟨-, -, -, w, v, hb, lo, -, -, eg⟩ := yst_ok yi wf e
    rw [eg]
    exact zp_yad hb lo h
theorem ryr_sg {m : Nat → Int32} {nm : Nat → Nat} : ∀ k s R g, a_YI s → a_wf R → R.length ≤ k → a_zp m s.1 s.2.1 s.2.2.2.2 s.2.2.1 s.2.2.2.1 → a_ryr m nm k s R = .inr g → a_sg m g.1 g.2.1 3 0 0 g.2.2.2.1 g.2.2.1
  | 0, s, R, g, yi, wf, hk, h, e => by
    obtain ⟨t, R', rfl, -, -, -, -⟩ := wf_c wf
    exact absurd hk (by rw [List.length_cons]; omega)
  | k + 1, s, R, g, yi, wf, hk, h, e => by
    have es : a_ryr m nm (k + 1) s R = if (a_h0 R).1 = 0 then (if s.2.2.2.2 = [] then .inr s else .inl (a_bl R 2)) else a_bi (a_yon m nm s R) (fun g => a_ryr m nm k g.1 g.2) := rfl
    rw [es] at e
    split at e
    · split at e
      · next c =>
        cases e
        rw [c] at h
        exact h
      · cases e
    · obtain ⟨g1, e1, e2⟩ := bi_inr e
      obtain ⟨p1, w1, l1⟩ := yon_ok yi wf e1
      exact ryr_sg k g1.1 g1.2 g p1 w1 (by omega) (zp_yon yi wf h e1) e2
