/-! loops by equations -/
def v_it {σ : Type} (f : Nat → σ → σ) : Nat → σ → σ
  | 0, s => s
  | n + 1, s => f n (v_it f n s)
theorem v_it_inv {σ : Type} (f : Nat → σ → σ) (I : Nat → σ → Prop) (N : Nat) (h : ∀ i s, i < N → I i s → I (i + 1) (f i s)) (s : σ) (h0 : I 0 s) : ∀ n, n ≤ N → I n (v_it f n s)
  | 0, _ => h0
  | n + 1, hn => h n _ (by omega) (v_it_inv f I N h s h0 n (by omega))
theorem v_for {σ : Type} (Q : Nat → Nat → σ → Prop) (f : Nat → σ → σ) (I : Nat → σ → Prop) (R : σ → Prop) (N : Nat) (hz : ∀ i s, ¬ Q 0 i s) (hs : ∀ fu i s, i < N → I i s → Q (fu + 1) i s = Q fu (i + 1) (f i s)) (he : ∀ fu s, I N s → Q (fu + 1) N s = R s) (hI : ∀ i s, i < N → I i s → I (i + 1) (f i s)) (s : σ) (h0 : I 0 s) : (∃ fu, Q fu 0 s) = R (v_it f N s) := by
  have key : ∀ k i, i + k = N → ∀ s, I i s → ((∃ fu, Q fu i s) = ∃ fu, Q fu N (v_it (fun j t => f (i + j) t) k s)) := by
    intro k
    induction k with
    | zero => intro i hi s hs; rw [show i = N by omega]; rfl
    | succ k ih =>
      intro i hi t ht
      have h1 : (∃ fu, Q fu i t) = ∃ fu, Q fu (i + 1) (f i t) := by
        apply propext
        constructor
        · rintro ⟨fu, h⟩
          cases fu with
          | zero => exact absurd h (hz _ _)
          | succ fu => exact ⟨fu, by rw [← hs fu i t (by omega) ht]; exact h⟩
        · rintro ⟨fu, h⟩
          exact ⟨fu + 1, by rw [hs fu i t (by omega) ht]; exact h⟩
      rw [h1, ih (i + 1) (by omega) _ (hI i t (by omega) ht)]
      have h2 : ∀ k, v_it (fun j t => f (i + 1 + j) t) k (f i t) = v_it (fun j t => f (i + j) t) (k + 1) t := by
        intro k
        induction k with
        | zero => rfl
        | succ k ih2 => show f (i + 1 + k) _ = f (i + (k + 1)) _; rw [ih2, show i + 1 + k = i + (k + 1) by omega]
      rw [h2]
  have h1 := key N 0 (by omega) s h0
  rw [h1]
  have hN : I N (v_it f N s) := v_it_inv f I N hI s h0 N (Nat.le_refl N)
  have h2 : (v_it (fun j t => f (0 + j) t) N s) = v_it f N s := by
    have : (fun j t => f (0 + j) t) = f := by funext j t; rw [Nat.zero_add]
    rw [this]
  rw [h2]
  apply propext
  constructor
  · rintro ⟨fu, h⟩
    cases fu with
    | zero => exact absurd h (hz _ _)
    | succ fu => rw [← he fu _ hN]; exact h
  · intro h
    exact ⟨1, by rw [he 0 _ hN]; exact h⟩
theorem v_it_congr {σ : Type} {f g : Nat → σ → σ} {N : Nat} (h : ∀ i s, i < N → f i s = g i s) (s : σ) : v_it f N s = v_it g N s := by
  induction N with
  | zero => rfl
  | succ n ih => show f n _ = g n _; rw [ih (fun i s hi => h i s (by omega)), h n _ (by omega)]
/-- the first below N that has it -/
def v_first (c : Nat → Bool) : Nat → Option Nat
  | 0 => none
  | n + 1 => match v_first c n with
    | some k => some k
    | none => if c n = true then some n else none
/-- the set of those that have it -/
def v_set (c : Nat → Bool) (n : Nat) : Int32 := v_it (fun d s => s ||| (if c d = true then 1 <<< (nI d &&& 31) else 0)) n 0
theorem v_set_congr {c c' : Nat → Bool} {n : Nat} (h : ∀ d, d < n → c d = c' d) : v_set c n = v_set c' n := v_it_congr (fun i s hi => by rw [h i hi]) 0
theorem nIs (n : Nat) : nI n + 1 = nI (n + 1) := nI_1 n
-- the class's sets
theorem e_deedsThat {b D : Nat} {S : vSt} {x : Int32} {K : Int32 → vSt → Prop} (hD : S.1 b 16 = nI D) (hD10 : D ≤ 10) : p_X0_deedsThat b S x K = K (v_set (fun d => decide (S.1 (b + 12) d = x)) D) S := by
  unfold p_X0_deedsThat
  refine v_for (fun fu i s => p_X0_deedsThat_4 b x K fu S s (nI i)) (fun d s => s ||| (if decide (S.1 (b + 12) d = x) = true then 1 <<< (nI d &&& 31) else 0)) (fun _ _ => True) (fun s => K s S) D (fun i s h => h) (fun fu i s hi _ => ?_) (fun fu s _ => ?_) (fun _ _ _ _ => trivial) 0 trivial
  · have h1 : ¬ nI D ≤ nI i := nI_ge hi (by omega)
    simp only [e_X0_deedsThat_4, hD, h1, e_at (show i < 10 by omega) (show 10 < 2 ^ 31 by omega), false_implies, true_and, not_false_eq_true, true_implies, p_X0_deedsThat_32, forall_eq, nIs]
    by_cases c : S.1 (b + 12) i = x <;> simp [c]
  · have h1 : nI D ≤ nI D := Int32.le_refl _
    simp only [e_X0_deedsThat_4, hD, h1, not_true_eq_false, false_implies, and_true, true_implies]